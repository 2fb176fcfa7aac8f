section
/-! ===== BEGIN words of one list among another's, by their places ===== -/
theorem goodIn_r {big : List Cond} (ws : List Cond) (ps : List Nat) (hp : ws = ps.filterMap (fun i => big[i]?)) (h : ws.all goodWord = true) : GoodIn big ws := by
  intro w hw
  have h1 := List.all_eq_true.mp h w hw
  rw [hp] at hw
  obtain ⟨i, -, hi⟩ := List.mem_filterMap.mp hw
  have hm : w ∈ big := by first | exact List.mem_of_getElem? hi | exact List.getElem?_mem hi
  exact ⟨hm, good_of_word h1⟩
theorem goodIn_app {big a b : List Cond} (ha : GoodIn big a) (hb : GoodIn big b) : GoodIn big (a ++ b) := fun w h => (List.mem_append.mp h).elim (ha w) (hb w)
theorem goodIn_ca {big a b : List Cond} {c : Cond} (ha : GoodIn big (c :: a)) (hb : GoodIn big b) : GoodIn big (c :: (a ++ b)) := fun w h => (List.mem_cons.mp h).elim (fun e => ha w (List.mem_cons.mpr (Or.inl e))) (fun h => (List.mem_append.mp h).elim (fun h => ha w (List.mem_cons.mpr (Or.inr h))) (hb w))
theorem goodIn_sub {big ws : List Cond} (hm : ∀ w ∈ ws, w ∈ big) (h : ws.all goodWord = true) : GoodIn big ws := fun w hw => ⟨hm w hw, good_of_word (List.all_eq_true.mp h w hw)⟩
/-! ===== END ===== -/
end
section
-- names, fields, word lists of the classes and methods that the rows speak of (out of the printed names of this claim)
def RX0 : String := "SsaForge$Code"
def TX0 : u_T := fun k => match k with
  | 0 => ("SsaForge$Code", "blocks", "I", false)
  | 1 => ("SsaForge$Code", "rows", "I", false)
  | 2 => ("SsaForge$Code", "phis", "I", false)
  | 3 => ("SsaForge$Code", "argCount", "I", false)
  | 4 => ("SsaForge$Code", "rowStart", "[I", true)
  | 5 => ("SsaForge$Code", "op", "[I", true)
  | 6 => ("SsaForge$Code", "target", "[I", true)
  | 7 => ("SsaForge$Code", "left", "[J", true)
  | 8 => ("SsaForge$Code", "right", "[J", true)
  | 9 => ("SsaForge$Code", "endKind", "[I", true)
  | 10 => ("SsaForge$Code", "endUse", "[J", true)
  | 11 => ("SsaForge$Code", "goalOne", "[I", true)
  | 12 => ("SsaForge$Code", "goalTwo", "[I", true)
  | 13 => ("SsaForge$Code", "predStart", "[I", true)
  | 14 => ("SsaForge$Code", "preds", "[I", true)
  | 15 => ("SsaForge$Code", "phiStart", "[I", true)
  | 16 => ("SsaForge$Code", "phiTarget", "[I", true)
  | 17 => ("SsaForge$Code", "argStart", "[I", true)
  | _ => ("SsaForge$Code", "args", "[J", false)
def tyX0 : Nat → FieldType := fun k => match k with
  | 0 => .int
  | 1 => .int
  | 2 => .int
  | 3 => .int
  | 4 => .array .int
  | 5 => .array .int
  | 6 => .array .int
  | 7 => .array .long
  | 8 => .array .long
  | 9 => .array .int
  | 10 => .array .long
  | 11 => .array .int
  | 12 => .array .int
  | 13 => .array .int
  | 14 => .array .int
  | 15 => .array .int
  | 16 => .array .int
  | 17 => .array .int
  | _ => .array .long
abbrev wsX00 : List Cond := u_ws RX0 TX0 19
theorem nmX0 : ∀ a, a < 19 → ∀ b, b < 19 → a ≠ b → (TX0 a).2.1 ≠ (TX0 b).2.1 := by decide +kernel
theorem tyX0_ok : ∀ k, k < 19 → parseFieldDescriptor (TX0 k).2.2.1 = some (tyX0 k) := by decide +kernel
theorem df_X0 : ∀ j, j < 19 → defaultValue (tyX0 j) = vp_V [.int 0, .int 0, .int 0, .int 0, .null, .null, .null, .null, .null, .null, .null, .null, .null, .null, .null, .null, .null, .null, .null] j := by decide +kernel
def RX1 : String := "SsaForge$Constants"
def TX1 : u_T := fun k => match k with
  | 0 => ("SsaForge$Constants", "gone", "[Z", true)
  | 1 => ("SsaForge$Constants", "firstOpen", "[Z", true)
  | 2 => ("SsaForge$Constants", "secondOpen", "[Z", true)
  | 3 => ("SsaForge$Constants", "kinds", "[I", true)
  | 4 => ("SsaForge$Constants", "instead", "[J", true)
  | _ => ("SsaForge$Constants", "changed", "Z", false)
def tyX1 : Nat → FieldType := fun k => match k with
  | 0 => .array .boolean
  | 1 => .array .boolean
  | 2 => .array .boolean
  | 3 => .array .int
  | 4 => .array .long
  | _ => .boolean
abbrev wsX10 : List Cond := u_ws RX1 TX1 6
theorem nmX1 : ∀ a, a < 6 → ∀ b, b < 6 → a ≠ b → (TX1 a).2.1 ≠ (TX1 b).2.1 := by decide +kernel
theorem tyX1_ok : ∀ k, k < 6 → parseFieldDescriptor (TX1 k).2.2.1 = some (tyX1 k) := by decide +kernel
theorem df_X1 : ∀ j, j < 6 → defaultValue (tyX1 j) = vp_V [.null, .null, .null, .null, .null, .int 0] j := by decide +kernel
def RX2 : String := "SsaForge$Flow"
def TX2 : u_T := fun k => match k with
  | 0 => ("SsaForge$Flow", "reached", "I", false)
  | 1 => ("SsaForge$Flow", "idom", "[I", true)
  | 2 => ("SsaForge$Flow", "order", "[I", true)
  | 3 => ("SsaForge$Flow", "inLoop", "[Z", true)
  | 4 => ("SsaForge$Flow", "place", "[I", true)
  | 5 => ("SsaForge$Flow", "span", "[I", true)
  | 6 => ("SsaForge$Flow", "frontier", "[J", true)
  | 7 => ("SsaForge$Flow", "stack", "[I", true)
  | 8 => ("SsaForge$Flow", "nextGoal", "[I", true)
  | 9 => ("SsaForge$Flow", "post", "[I", true)
  | 10 => ("SsaForge$Flow", "byPost", "[I", true)
  | 11 => ("SsaForge$Flow", "firstChild", "[I", true)
  | _ => ("SsaForge$Flow", "nextChild", "[I", true)
def tyX2 : Nat → FieldType := fun k => match k with
  | 0 => .int
  | 1 => .array .int
  | 2 => .array .int
  | 3 => .array .boolean
  | 4 => .array .int
  | 5 => .array .int
  | 6 => .array .long
  | 7 => .array .int
  | 8 => .array .int
  | 9 => .array .int
  | 10 => .array .int
  | 11 => .array .int
  | _ => .array .int
abbrev wsX20 : List Cond := u_ws RX2 TX2 13
theorem nmX2 : ∀ a, a < 13 → ∀ b, b < 13 → a ≠ b → (TX2 a).2.1 ≠ (TX2 b).2.1 := by decide +kernel
theorem tyX2_ok : ∀ k, k < 13 → parseFieldDescriptor (TX2 k).2.2.1 = some (tyX2 k) := by decide +kernel
theorem df_X2 : ∀ j, j < 13 → defaultValue (tyX2 j) = vp_V [.int 0, .null, .null, .null, .null, .null, .null, .null, .null, .null, .null, .null, .null] j := by decide +kernel
def RX3 : String := "SsaForge$Likes"
def TX3 : u_T := fun k => match k with
  | 0 => ("SsaForge$Likes", "instead", "[J", true)
  | 1 => ("SsaForge$Likes", "standing", "[I", true)
  | 2 => ("SsaForge$Likes", "standingCount", "I", false)
  | 3 => ("SsaForge$Likes", "path", "[I", true)
  | _ => ("SsaForge$Likes", "pathMark", "[I", true)
def tyX3 : Nat → FieldType := fun k => match k with
  | 0 => .array .long
  | 1 => .array .int
  | 2 => .int
  | 3 => .array .int
  | _ => .array .int
abbrev wsX30 : List Cond := u_ws RX3 TX3 5
theorem nmX3 : ∀ a, a < 5 → ∀ b, b < 5 → a ≠ b → (TX3 a).2.1 ≠ (TX3 b).2.1 := by decide +kernel
theorem tyX3_ok : ∀ k, k < 5 → parseFieldDescriptor (TX3 k).2.2.1 = some (tyX3 k) := by decide +kernel
theorem df_X3 : ∀ j, j < 5 → defaultValue (tyX3 j) = vp_V [.null, .null, .int 0, .null, .null] j := by decide +kernel
def RX4 : String := "SsaForge$Live"
def TX4 : u_T := fun k => match k with
  | 0 => ("SsaForge$Live", "words", "I", false)
  | 1 => ("SsaForge$Live", "start", "[J", true)
  | 2 => ("SsaForge$Live", "finish", "[J", true)
  | 3 => ("SsaForge$Live", "sets", "[J", true)
  | 4 => ("SsaForge$Live", "uses", "[J", true)
  | 5 => ("SsaForge$Live", "phiSets", "[J", true)
  | 6 => ("SsaForge$Live", "phiUses", "[J", true)
  | _ => ("SsaForge$Live", "now", "[J", true)
def tyX4 : Nat → FieldType := fun k => match k with
  | 0 => .int
  | 1 => .array .long
  | 2 => .array .long
  | 3 => .array .long
  | 4 => .array .long
  | 5 => .array .long
  | 6 => .array .long
  | _ => .array .long
abbrev wsX40 : List Cond := u_ws RX4 TX4 8
theorem nmX4 : ∀ a, a < 8 → ∀ b, b < 8 → a ≠ b → (TX4 a).2.1 ≠ (TX4 b).2.1 := by decide +kernel
theorem tyX4_ok : ∀ k, k < 8 → parseFieldDescriptor (TX4 k).2.2.1 = some (tyX4 k) := by decide +kernel
theorem df_X4 : ∀ j, j < 8 → defaultValue (tyX4 j) = vp_V [.int 0, .null, .null, .null, .null, .null, .null, .null] j := by decide +kernel
def RX5 : String := "SsaForge$Machine"
def TX5 : u_T := fun k => match k with
  | 0 => ("SsaForge$Machine", "inputLength", "I", false)
  | 1 => ("SsaForge$Machine", "answer", "I", false)
  | 2 => ("SsaForge$Machine", "shownCount", "I", false)
  | 3 => ("SsaForge$Machine", "steps", "I", false)
  | 4 => ("SsaForge$Machine", "inputRead", "I", false)
  | 5 => ("SsaForge$Machine", "ending", "I", false)
  | 6 => ("SsaForge$Machine", "shownInts", "[I", true)
  | 7 => ("SsaForge$Machine", "inputInts", "[I", true)
  | 8 => ("SsaForge$Machine", "register", "[I", true)
  | 9 => ("SsaForge$Machine", "phiValue", "[I", true)
  | _ => ("SsaForge$Machine", "fuel", "I", false)
def tyX5 : Nat → FieldType := fun k => match k with
  | 0 => .int
  | 1 => .int
  | 2 => .int
  | 3 => .int
  | 4 => .int
  | 5 => .int
  | 6 => .array .int
  | 7 => .array .int
  | 8 => .array .int
  | 9 => .array .int
  | _ => .int
abbrev wsX50 : List Cond := u_ws RX5 TX5 11
theorem nmX5 : ∀ a, a < 11 → ∀ b, b < 11 → a ≠ b → (TX5 a).2.1 ≠ (TX5 b).2.1 := by decide +kernel
theorem tyX5_ok : ∀ k, k < 11 → parseFieldDescriptor (TX5 k).2.2.1 = some (tyX5 k) := by decide +kernel
theorem df_X5 : ∀ j, j < 11 → defaultValue (tyX5 j) = vp_V [.int 0, .int 0, .int 0, .int 0, .int 0, .int 0, .null, .null, .null, .null, .int 0] j := by decide +kernel
def RX6 : String := "SsaForge$Printer"
def TX6 : u_T := fun k => match k with
  | 0 => ("SsaForge$Printer", "length", "I", false)
  | 1 => ("SsaForge$Printer", "result", "[B", false)
  | 2 => ("SsaForge$Printer", "digits", "[I", true)
  | 3 => ("SsaForge$Printer", "keeping", "Z", false)
  | _ => ("SsaForge$Printer", "at", "I", false)
def tyX6 : Nat → FieldType := fun k => match k with
  | 0 => .int
  | 1 => .array .byte
  | 2 => .array .int
  | 3 => .boolean
  | _ => .int
abbrev wsX60 : List Cond := u_ws RX6 TX6 5
theorem nmX6 : ∀ a, a < 5 → ∀ b, b < 5 → a ≠ b → (TX6 a).2.1 ≠ (TX6 b).2.1 := by decide +kernel
theorem tyX6_ok : ∀ k, k < 5 → parseFieldDescriptor (TX6 k).2.2.1 = some (tyX6 k) := by decide +kernel
theorem df_X6 : ∀ j, j < 5 → defaultValue (tyX6 j) = vp_V [.int 0, .null, .null, .int 0, .int 0] j := by decide +kernel
def RX7 : String := "SsaForge$Reader"
def TX7 : u_T := fun k => match k with
  | 0 => ("SsaForge$Reader", "reason", "I", false)
  | 1 => ("SsaForge$Reader", "bytes", "[B", false)
  | 2 => ("SsaForge$Reader", "length", "I", false)
  | 3 => ("SsaForge$Reader", "at", "I", false)
  | 4 => ("SsaForge$Reader", "kind", "I", false)
  | 5 => ("SsaForge$Reader", "place", "I", false)
  | 6 => ("SsaForge$Reader", "value", "I", false)
  | 7 => ("SsaForge$Reader", "state", "I", false)
  | 8 => ("SsaForge$Reader", "code", "LSsaForge$Code;", false)
  | 9 => ("SsaForge$Reader", "rowCount", "I", false)
  | 10 => ("SsaForge$Reader", "blockCount", "I", false)
  | 11 => ("SsaForge$Reader", "rowTarget", "I", false)
  | 12 => ("SsaForge$Reader", "rowOp", "I", false)
  | 13 => ("SsaForge$Reader", "operand", "J", false)
  | 14 => ("SsaForge$Reader", "firstGoal", "I", false)
  | 15 => ("SsaForge$Reader", "brokenPlace", "I", false)
  | 16 => ("SsaForge$Reader", "labelled", "[Z", true)
  | _ => ("SsaForge$Reader", "goalPlace", "[I", true)
def tyX7 : Nat → FieldType := fun k => match k with
  | 0 => .int
  | 1 => .array .byte
  | 2 => .int
  | 3 => .int
  | 4 => .int
  | 5 => .int
  | 6 => .int
  | 7 => .int
  | 8 => .object "SsaForge$Code"
  | 9 => .int
  | 10 => .int
  | 11 => .int
  | 12 => .int
  | 13 => .long
  | 14 => .int
  | 15 => .int
  | 16 => .array .boolean
  | _ => .array .int
abbrev wsX70 : List Cond := u_ws RX7 TX7 18
theorem nmX7 : ∀ a, a < 18 → ∀ b, b < 18 → a ≠ b → (TX7 a).2.1 ≠ (TX7 b).2.1 := by decide +kernel
theorem tyX7_ok : ∀ k, k < 18 → parseFieldDescriptor (TX7 k).2.2.1 = some (tyX7 k) := by decide +kernel
theorem df_X7 : ∀ j, j < 18 → defaultValue (tyX7 j) = vp_V [.int 0, .null, .int 0, .int 0, .int 0, .int 0, .int 0, .int 0, .null, .int 0, .int 0, .int 0, .int 0, .long 0, .int 0, .int 0, .null, .null] j := by decide +kernel
def RX8 : String := "SsaForge$SsaMaker"
def TX8 : u_T := fun k => match k with
  | 0 => ("SsaForge$SsaMaker", "wanted", "[J", true)
  | 1 => ("SsaForge$SsaMaker", "latest", "[I", true)
  | 2 => ("SsaForge$SsaMaker", "path", "[I", true)
  | 3 => ("SsaForge$SsaMaker", "pathMark", "[I", true)
  | 4 => ("SsaForge$SsaMaker", "hiddenRegister", "[I", true)
  | 5 => ("SsaForge$SsaMaker", "hiddenLatest", "[I", true)
  | 6 => ("SsaForge$SsaMaker", "hidden", "I", false)
  | _ => ("SsaForge$SsaMaker", "given", "I", false)
def tyX8 : Nat → FieldType := fun k => match k with
  | 0 => .array .long
  | 1 => .array .int
  | 2 => .array .int
  | 3 => .array .int
  | 4 => .array .int
  | 5 => .array .int
  | 6 => .int
  | _ => .int
abbrev wsX80 : List Cond := u_ws RX8 TX8 8
theorem nmX8 : ∀ a, a < 8 → ∀ b, b < 8 → a ≠ b → (TX8 a).2.1 ≠ (TX8 b).2.1 := by decide +kernel
theorem tyX8_ok : ∀ k, k < 8 → parseFieldDescriptor (TX8 k).2.2.1 = some (tyX8 k) := by decide +kernel
theorem df_X8 : ∀ j, j < 8 → defaultValue (tyX8 j) = vp_V [.null, .null, .null, .null, .null, .null, .int 0, .int 0] j := by decide +kernel
def RX9 : String := "SsaForge$Tidier"
def TX9 : u_T := fun k => match k with
  | 0 => ("SsaForge$Tidier", "leads", "[Z", true)
  | 1 => ("SsaForge$Tidier", "follower", "[I", true)
  | 2 => ("SsaForge$Tidier", "number", "[I", true)
  | 3 => ("SsaForge$Tidier", "firstOf", "[I", true)
  | 4 => ("SsaForge$Tidier", "lastOf", "[I", true)
  | 5 => ("SsaForge$Tidier", "marked", "[Z", true)
  | 6 => ("SsaForge$Tidier", "instead", "[J", true)
  | 7 => ("SsaForge$Tidier", "changed", "Z", false)
  | _ => ("SsaForge$Tidier", "foundBlock", "I", false)
def tyX9 : Nat → FieldType := fun k => match k with
  | 0 => .array .boolean
  | 1 => .array .int
  | 2 => .array .int
  | 3 => .array .int
  | 4 => .array .int
  | 5 => .array .boolean
  | 6 => .array .long
  | 7 => .boolean
  | _ => .int
abbrev wsX90 : List Cond := u_ws RX9 TX9 9
theorem nmX9 : ∀ a, a < 9 → ∀ b, b < 9 → a ≠ b → (TX9 a).2.1 ≠ (TX9 b).2.1 := by decide +kernel
theorem tyX9_ok : ∀ k, k < 9 → parseFieldDescriptor (TX9 k).2.2.1 = some (tyX9 k) := by decide +kernel
theorem df_X9 : ∀ j, j < 9 → defaultValue (tyX9 j) = vp_V [.null, .null, .null, .null, .null, .null, .null, .int 0, .int 0] j := by decide +kernel
def RX10 : String := "SsaForge$WayOut"
def TX10 : u_T := fun k => match k with
  | 0 => ("SsaForge$WayOut", "colour", "[I", true)
  | 1 => ("SsaForge$WayOut", "busy", "[I", true)
  | 2 => ("SsaForge$WayOut", "rowFlags", "[I", true)
  | 3 => ("SsaForge$WayOut", "now", "[J", true)
  | 4 => ("SsaForge$WayOut", "words", "I", false)
  | 5 => ("SsaForge$WayOut", "stamp", "I", false)
  | 6 => ("SsaForge$WayOut", "colours", "I", false)
  | 7 => ("SsaForge$WayOut", "present", "[Z", true)
  | 8 => ("SsaForge$WayOut", "moveTo", "[I", true)
  | 9 => ("SsaForge$WayOut", "moveFrom", "[J", true)
  | 10 => ("SsaForge$WayOut", "moved", "[Z", true)
  | 11 => ("SsaForge$WayOut", "waiting", "[I", true)
  | 12 => ("SsaForge$WayOut", "moves", "I", false)
  | _ => ("SsaForge$WayOut", "helper", "I", false)
def tyX10 : Nat → FieldType := fun k => match k with
  | 0 => .array .int
  | 1 => .array .int
  | 2 => .array .int
  | 3 => .array .long
  | 4 => .int
  | 5 => .int
  | 6 => .int
  | 7 => .array .boolean
  | 8 => .array .int
  | 9 => .array .long
  | 10 => .array .boolean
  | 11 => .array .int
  | 12 => .int
  | _ => .int
abbrev wsX100 : List Cond := u_ws RX10 TX10 14
theorem nmX10 : ∀ a, a < 14 → ∀ b, b < 14 → a ≠ b → (TX10 a).2.1 ≠ (TX10 b).2.1 := by decide +kernel
theorem tyX10_ok : ∀ k, k < 14 → parseFieldDescriptor (TX10 k).2.2.1 = some (tyX10 k) := by decide +kernel
theorem df_X10 : ∀ j, j < 14 → defaultValue (tyX10 j) = vp_V [.null, .null, .null, .null, .int 0, .int 0, .int 0, .null, .null, .null, .null, .null, .int 0, .int 0] j := by decide +kernel
def RX11 : String := "SsaForge"
def TX11 : u_T := fun k => match k with
  | 0 => ("SsaForge", "tape", "[B", true)
  | 1 => ("SsaForge", "tapeLength", "I", false)
  | 2 => ("SsaForge", "form", "I", false)
  | 3 => ("SsaForge", "code", "LSsaForge$Code;", false)
  | 4 => ("SsaForge", "spare", "LSsaForge$Code;", false)
  | 5 => ("SsaForge", "flow", "LSsaForge$Flow;", true)
  | 6 => ("SsaForge", "flowKnown", "Z", false)
  | 7 => ("SsaForge", "live", "LSsaForge$Live;", true)
  | 8 => ("SsaForge", "liveKnown", "Z", false)
  | 9 => ("SsaForge", "reader", "LSsaForge$Reader;", true)
  | 10 => ("SsaForge", "ssaMaker", "LSsaForge$SsaMaker;", true)
  | 11 => ("SsaForge", "constants", "LSsaForge$Constants;", true)
  | 12 => ("SsaForge", "likes", "LSsaForge$Likes;", true)
  | 13 => ("SsaForge", "tidier", "LSsaForge$Tidier;", true)
  | 14 => ("SsaForge", "wayOut", "LSsaForge$WayOut;", true)
  | 15 => ("SsaForge", "machine", "LSsaForge$Machine;", true)
  | _ => ("SsaForge", "printer", "LSsaForge$Printer;", true)
def tyX11 : Nat → FieldType := fun k => match k with
  | 0 => .array .byte
  | 1 => .int
  | 2 => .int
  | 3 => .object "SsaForge$Code"
  | 4 => .object "SsaForge$Code"
  | 5 => .object "SsaForge$Flow"
  | 6 => .boolean
  | 7 => .object "SsaForge$Live"
  | 8 => .boolean
  | 9 => .object "SsaForge$Reader"
  | 10 => .object "SsaForge$SsaMaker"
  | 11 => .object "SsaForge$Constants"
  | 12 => .object "SsaForge$Likes"
  | 13 => .object "SsaForge$Tidier"
  | 14 => .object "SsaForge$WayOut"
  | 15 => .object "SsaForge$Machine"
  | _ => .object "SsaForge$Printer"
abbrev wsX110 : List Cond := u_ws RX11 TX11 17
theorem nmX11 : ∀ a, a < 17 → ∀ b, b < 17 → a ≠ b → (TX11 a).2.1 ≠ (TX11 b).2.1 := by decide +kernel
theorem tyX11_ok : ∀ k, k < 17 → parseFieldDescriptor (TX11 k).2.2.1 = some (tyX11 k) := by decide +kernel
theorem df_X11 : ∀ j, j < 17 → defaultValue (tyX11 j) = vp_V [.null, .int 0, .int 0, .null, .null, .null, .int 0, .null, .int 0, .null, .null, .null, .null, .null, .null, .null, .null] j := by decide +kernel
def RX13 : String := "SsaForgeModel$Code"
def TX13 : u_T := fun k => match k with
  | 0 => ("SsaForgeModel$Code", "blocks", "Ljava/util/ArrayList;", true)
  | 1 => ("SsaForgeModel$Code", "rows", "Ljava/util/ArrayList;", true)
  | 2 => ("SsaForgeModel$Code", "phis", "Ljava/util/ArrayList;", true)
  | 3 => ("SsaForgeModel$Code", "rowN", "I", false)
  | 4 => ("SsaForgeModel$Code", "phiN", "I", false)
  | 5 => ("SsaForgeModel$Code", "all", "Ljava/util/ArrayList;", true)
  | _ => ("SsaForgeModel$Code", "made", "I", false)
def tyX13 : Nat → FieldType := fun k => match k with
  | 0 => .object "java/util/ArrayList"
  | 1 => .object "java/util/ArrayList"
  | 2 => .object "java/util/ArrayList"
  | 3 => .int
  | 4 => .int
  | 5 => .object "java/util/ArrayList"
  | _ => .int
abbrev wsX130 : List Cond := u_ws RX13 TX13 7
theorem nmX13 : ∀ a, a < 7 → ∀ b, b < 7 → a ≠ b → (TX13 a).2.1 ≠ (TX13 b).2.1 := by decide +kernel
theorem tyX13_ok : ∀ k, k < 7 → parseFieldDescriptor (TX13 k).2.2.1 = some (tyX13 k) := by decide +kernel
theorem df_X13 : ∀ j, j < 7 → defaultValue (tyX13 j) = vp_V [.null, .null, .null, .int 0, .int 0, .null, .int 0] j := by decide +kernel
def RX14 : String := "SsaForgeModel$Flow"
def TX14 : u_T := fun k => match k with
  | 0 => ("SsaForgeModel$Flow", "c", "LSsaForgeModel$Code;", false)
  | 1 => ("SsaForgeModel$Flow", "n", "I", false)
  | 2 => ("SsaForgeModel$Flow", "reached", "[Z", false)
  | 3 => ("SsaForgeModel$Flow", "dominates", "[[Z", false)
  | 4 => ("SsaForgeModel$Flow", "idom", "[I", false)
  | 5 => ("SsaForgeModel$Flow", "order", "[I", false)
  | 6 => ("SsaForgeModel$Flow", "ordered", "I", false)
  | 7 => ("SsaForgeModel$Flow", "stack", "[I", false)
  | 8 => ("SsaForgeModel$Flow", "depth", "[I", false)
  | 9 => ("SsaForgeModel$Flow", "seen", "[Z", false)
  | 10 => ("SsaForgeModel$Flow", "live", "[[Z", false)
  | 11 => ("SsaForgeModel$Flow", "now", "[Z", false)
  | _ => ("SsaForgeModel$Flow", "phi", "[Z", true)
def tyX14 : Nat → FieldType := fun k => match k with
  | 0 => .object "SsaForgeModel$Code"
  | 1 => .int
  | 2 => .array .boolean
  | 3 => .array (.array .boolean)
  | 4 => .array .int
  | 5 => .array .int
  | 6 => .int
  | 7 => .array .int
  | 8 => .array .int
  | 9 => .array .boolean
  | 10 => .array (.array .boolean)
  | 11 => .array .boolean
  | _ => .array .boolean
abbrev wsX140 : List Cond := u_ws RX14 TX14 13
theorem nmX14 : ∀ a, a < 13 → ∀ b, b < 13 → a ≠ b → (TX14 a).2.1 ≠ (TX14 b).2.1 := by decide +kernel
theorem tyX14_ok : ∀ k, k < 13 → parseFieldDescriptor (TX14 k).2.2.1 = some (tyX14 k) := by decide +kernel
theorem df_X14 : ∀ j, j < 13 → defaultValue (tyX14 j) = vp_V [.null, .int 0, .null, .null, .null, .null, .int 0, .null, .null, .null, .null, .null, .null] j := by decide +kernel
def RX16 : String := "SsaForgeModel$Reader"
def TX16 : u_T := fun k => match k with
  | 0 => ("SsaForgeModel$Reader", "t", "[B", true)
  | 1 => ("SsaForgeModel$Reader", "n", "I", true)
  | 2 => ("SsaForgeModel$Reader", "at", "I", false)
  | 3 => ("SsaForgeModel$Reader", "kind", "I", false)
  | 4 => ("SsaForgeModel$Reader", "place", "I", false)
  | 5 => ("SsaForgeModel$Reader", "value", "I", false)
  | 6 => ("SsaForgeModel$Reader", "before", "I", false)
  | 7 => ("SsaForgeModel$Reader", "text", "Ljava/lang/String;", false)
  | 8 => ("SsaForgeModel$Reader", "rulePlace", "I", false)
  | 9 => ("SsaForgeModel$Reader", "rule", "I", false)
  | 10 => ("SsaForgeModel$Reader", "rows", "I", false)
  | 11 => ("SsaForgeModel$Reader", "goalPlaces", "[I", false)
  | 12 => ("SsaForgeModel$Reader", "goals", "[I", false)
  | _ => ("SsaForgeModel$Reader", "goalN", "I", false)
def tyX16 : Nat → FieldType := fun k => match k with
  | 0 => .array .byte
  | 1 => .int
  | 2 => .int
  | 3 => .int
  | 4 => .int
  | 5 => .int
  | 6 => .int
  | 7 => .object "java/lang/String"
  | 8 => .int
  | 9 => .int
  | 10 => .int
  | 11 => .array .int
  | 12 => .array .int
  | _ => .int
abbrev wsX160 : List Cond := u_ws RX16 TX16 14
theorem nmX16 : ∀ a, a < 14 → ∀ b, b < 14 → a ≠ b → (TX16 a).2.1 ≠ (TX16 b).2.1 := by decide +kernel
theorem tyX16_ok : ∀ k, k < 14 → parseFieldDescriptor (TX16 k).2.2.1 = some (tyX16 k) := by decide +kernel
theorem df_X16 : ∀ j, j < 14 → defaultValue (tyX16 j) = vp_V [.null, .int 0, .int 0, .int 0, .int 0, .int 0, .int 0, .null, .int 0, .int 0, .int 0, .null, .null, .int 0] j := by decide +kernel
def RX18 : String := "SsaForgeModel$Wrong"
def TX18 : u_T := fun k => match k with
  | 0 => ("java/lang/Throwable", "cause", "Ljava/lang/Throwable;", false)
  | 1 => ("java/lang/Throwable", "stackTrace", "[Ljava/lang/StackTraceElement;", false)
  | 2 => ("java/lang/Throwable", "suppressedExceptions", "Ljava/util/List;", false)
  | 3 => ("java/lang/Throwable", "detailMessage", "Ljava/lang/String;", false)
  | 4 => ("java/lang/Throwable", "backtrace", "Ljava/lang/Object;", false)
  | 5 => ("java/lang/Throwable", "depth", "I", false)
  | _ => ("SsaForgeModel$Wrong", "place", "I", true)
def tyX18 : Nat → FieldType := fun k => match k with
  | 0 => .object "java/lang/Throwable"
  | 1 => .array (.object "java/lang/StackTraceElement")
  | 2 => .object "java/util/List"
  | 3 => .object "java/lang/String"
  | 4 => .object "java/lang/Object"
  | 5 => .int
  | _ => .int
abbrev wsX180 : List Cond := u_ws RX18 TX18 7
theorem nmX18 : ∀ a, a < 7 → ∀ b, b < 7 → a ≠ b → (TX18 a).2.1 ≠ (TX18 b).2.1 := by decide +kernel
theorem tyX18_ok : ∀ k, k < 7 → parseFieldDescriptor (TX18 k).2.2.1 = some (tyX18 k) := by decide +kernel
theorem df_X18 : ∀ j, j < 7 → defaultValue (tyX18 j) = vp_V [.null, .null, .null, .null, .null, .int 0, .int 0] j := by decide +kernel
def RX19 : String := "SsaForgeModel"
def TX19 : u_T := fun k => match k with
  | 0 => ("SsaForgeModel", "flow", "LSsaForgeModel$Flow;", true)
  | 1 => ("SsaForgeModel", "code", "LSsaForgeModel$Code;", false)
  | 2 => ("SsaForgeModel", "spare", "LSsaForgeModel$Code;", false)
  | 3 => ("SsaForgeModel", "numbers", "[I", false)
  | 4 => ("SsaForgeModel", "flags", "[Z", false)
  | 5 => ("SsaForgeModel", "sets", "[Z", false)
  | 6 => ("SsaForgeModel", "latest", "[[I", false)
  | 7 => ("SsaForgeModel", "state", "[I", true)
  | 8 => ("SsaForgeModel", "number", "[I", true)
  | 9 => ("SsaForgeModel", "gone", "[Z", false)
  | 10 => ("SsaForgeModel", "open", "[Z", false)
  | 11 => ("SsaForgeModel", "changed", "Z", false)
  | 12 => ("SsaForgeModel", "replaced", "[Z", true)
  | 13 => ("SsaForgeModel", "byReg", "[Z", true)
  | 14 => ("SsaForgeModel", "by", "[I", true)
  | 15 => ("SsaForgeModel", "needed", "[Z", true)
  | 16 => ("SsaForgeModel", "loop", "[Z", false)
  | 17 => ("SsaForgeModel", "inside", "[Z", true)
  | 18 => ("SsaForgeModel", "becomes", "[I", true)
  | 19 => ("SsaForgeModel", "taken", "[Z", true)
  | 20 => ("SsaForgeModel", "movesTo", "[I", false)
  | 21 => ("SsaForgeModel", "movesOf", "[I", false)
  | 22 => ("SsaForgeModel", "movesReg", "[Z", false)
  | 23 => ("SsaForgeModel", "moves", "I", false)
  | 24 => ("SsaForgeModel", "registers", "[I", true)
  | 25 => ("SsaForgeModel", "shows", "[I", true)
  | 26 => ("SsaForgeModel", "atOnce", "[I", false)
  | 27 => ("SsaForgeModel", "ended", "I", false)
  | 28 => ("SsaForgeModel", "answer", "I", false)
  | 29 => ("SsaForgeModel", "shown", "I", false)
  | 30 => ("SsaForgeModel", "steps", "I", false)
  | 31 => ("SsaForgeModel", "read", "I", false)
  | 32 => ("SsaForgeModel", "words", "Ljava/lang/StringBuilder;", true)
  | 33 => ("SsaForgeModel", "thrown", "I", false)
  | 34 => ("SsaForgeModel", "tape", "[B", true)
  | 35 => ("SsaForgeModel", "size", "I", false)
  | 36 => ("SsaForgeModel", "form", "I", false)
  | 37 => ("SsaForgeModel", "reason", "I", false)
  | 38 => ("SsaForgeModel", "results", "I", false)
  | 39 => ("SsaForgeModel", "result", "[B", false)
  | _ => ("SsaForgeModel", "input", "[I", false)
def tyX19 : Nat → FieldType := fun k => match k with
  | 0 => .object "SsaForgeModel$Flow"
  | 1 => .object "SsaForgeModel$Code"
  | 2 => .object "SsaForgeModel$Code"
  | 3 => .array .int
  | 4 => .array .boolean
  | 5 => .array .boolean
  | 6 => .array (.array .int)
  | 7 => .array .int
  | 8 => .array .int
  | 9 => .array .boolean
  | 10 => .array .boolean
  | 11 => .boolean
  | 12 => .array .boolean
  | 13 => .array .boolean
  | 14 => .array .int
  | 15 => .array .boolean
  | 16 => .array .boolean
  | 17 => .array .boolean
  | 18 => .array .int
  | 19 => .array .boolean
  | 20 => .array .int
  | 21 => .array .int
  | 22 => .array .boolean
  | 23 => .int
  | 24 => .array .int
  | 25 => .array .int
  | 26 => .array .int
  | 27 => .int
  | 28 => .int
  | 29 => .int
  | 30 => .int
  | 31 => .int
  | 32 => .object "java/lang/StringBuilder"
  | 33 => .int
  | 34 => .array .byte
  | 35 => .int
  | 36 => .int
  | 37 => .int
  | 38 => .int
  | 39 => .array .byte
  | _ => .array .int
abbrev wsX190 : List Cond := u_ws RX19 TX19 41
theorem nmX19 : ∀ a, a < 41 → ∀ b, b < 41 → a ≠ b → (TX19 a).2.1 ≠ (TX19 b).2.1 := by decide +kernel
theorem tyX19_ok : ∀ k, k < 41 → parseFieldDescriptor (TX19 k).2.2.1 = some (tyX19 k) := by decide +kernel
theorem df_X19 : ∀ j, j < 41 → defaultValue (tyX19 j) = vp_V [.null, .null, .null, .null, .null, .null, .null, .null, .null, .null, .null, .int 0, .null, .null, .null, .null, .null, .null, .null, .null, .null, .null, .null, .int 0, .null, .null, .null, .int 0, .int 0, .int 0, .int 0, .int 0, .null, .int 0, .null, .int 0, .int 0, .int 0, .int 0, .null, .null] j := by decide +kernel
def RJ4 : String := "java/lang/StringBuilder"
def TJ4 : u_T := fun k => match k with
  | 0 => ("java/lang/AbstractStringBuilder", "value", "[B", false)
  | 1 => ("java/lang/AbstractStringBuilder", "coder", "B", false)
  | 2 => ("java/lang/AbstractStringBuilder", "maybeLatin1", "Z", false)
  | _ => ("java/lang/AbstractStringBuilder", "count", "I", false)
def tyJ4 : Nat → FieldType := fun k => match k with
  | 0 => .array .byte
  | 1 => .byte
  | 2 => .boolean
  | _ => .int
abbrev wsJ40 : List Cond := u_ws RJ4 TJ4 4
theorem nmJ4 : ∀ a, a < 4 → ∀ b, b < 4 → a ≠ b → (TJ4 a).2.1 ≠ (TJ4 b).2.1 := by decide +kernel
theorem tyJ4_ok : ∀ k, k < 4 → parseFieldDescriptor (TJ4 k).2.2.1 = some (tyJ4 k) := by decide +kernel
theorem df_J4 : ∀ j, j < 4 → defaultValue (tyJ4 j) = vp_V [.null, .int 0, .int 0, .int 0] j := by decide +kernel
def RJx4a65c : String := "java/util/ArrayList"
def TJx4a65c : u_T := fun k => match k with
  | 0 => ("java/util/AbstractList", "modCount", "I", false)
  | 1 => ("java/util/ArrayList", "elementData", "[Ljava/lang/Object;", false)
  | _ => ("java/util/ArrayList", "size", "I", false)
def tyJx4a65c : Nat → FieldType := fun k => match k with
  | 0 => .int
  | 1 => .array (.object "java/lang/Object")
  | _ => .int
abbrev wsJx4a65c0 : List Cond := u_ws RJx4a65c TJx4a65c 3
theorem nmJx4a65c : ∀ a, a < 3 → ∀ b, b < 3 → a ≠ b → (TJx4a65c a).2.1 ≠ (TJx4a65c b).2.1 := by decide +kernel
theorem tyJx4a65c_ok : ∀ k, k < 3 → parseFieldDescriptor (TJx4a65c k).2.2.1 = some (tyJx4a65c k) := by decide +kernel
theorem df_Jx4a65c : ∀ j, j < 3 → defaultValue (tyJx4a65c j) = vp_V [.int 0, .null, .int 0] j := by decide +kernel
abbrev cX0_init : ByteArray := prog_2_method_1_code
def yX0_init : MethodName := ⟨RX0, "<init>", "()V"⟩
abbrev cX1_init : ByteArray := prog_3_method_1_code
def yX1_init : MethodName := ⟨RX1, "<init>", "()V"⟩
abbrev cX2_init : ByteArray := prog_4_method_1_code
def yX2_init : MethodName := ⟨RX2, "<init>", "()V"⟩
abbrev cX3_init : ByteArray := prog_5_method_1_code
def yX3_init : MethodName := ⟨RX3, "<init>", "()V"⟩
abbrev cX4_init : ByteArray := prog_6_method_1_code
def yX4_init : MethodName := ⟨RX4, "<init>", "()V"⟩
abbrev cX8_init : ByteArray := prog_10_method_1_code
def yX8_init : MethodName := ⟨RX8, "<init>", "()V"⟩
abbrev cX9_init : ByteArray := prog_11_method_1_code
def yX9_init : MethodName := ⟨RX9, "<init>", "()V"⟩
abbrev cX10_init : ByteArray := prog_12_method_1_code
def yX10_init : MethodName := ⟨RX10, "<init>", "()V"⟩
abbrev cX5_init : ByteArray := prog_7_method_1_code
def yX5_init : MethodName := ⟨RX5, "<init>", "()V"⟩
abbrev cX6_init : ByteArray := prog_8_method_1_code
def yX6_init : MethodName := ⟨RX6, "<init>", "()V"⟩
abbrev cX7_init : ByteArray := prog_9_method_1_code
def yX7_init : MethodName := ⟨RX7, "<init>", "()V"⟩
abbrev cX11_init : ByteArray := prog_1_method_1_code
def yX11_init : MethodName := ⟨RX11, "<init>", "()V"⟩
abbrev cX11_putOnTape : ByteArray := prog_1_method_16_code
def yX11_putOnTape : MethodName := ⟨RX11, "putOnTape", "(I)V"⟩
abbrev cX11_feed : ByteArray := prog_1_method_2_code
def yX11_feed : MethodName := ⟨RX11, "feed", "(IIIII)I"⟩
abbrev cX0_clear : ByteArray := prog_2_method_2_code
def yX0_clear : MethodName := ⟨RX0, "clear", "()V"⟩
abbrev cX7_begin : ByteArray := prog_9_method_3_code
def yX7_begin : MethodName := ⟨RX7, "begin", "([BILSsaForge$Code;)V"⟩
abbrev cX7_skipBlanks : ByteArray := prog_9_method_8_code
def yX7_skipBlanks : MethodName := ⟨RX7, "skipBlanks", "()V"⟩
abbrev cX7_scan : ByteArray := prog_9_method_7_code
def yX7_scan : MethodName := ⟨RX7, "scan", "()V"⟩
abbrev cX7_readAll : ByteArray := prog_9_method_2_code
def yX7_readAll : MethodName := ⟨RX7, "readAll", "([BILSsaForge$Code;)I"⟩
abbrev cX11_text : ByteArray := prog_1_method_4_code
def yX11_text : MethodName := ⟨RX11, "text", "()I"⟩
abbrev cX5_takeInput : ByteArray := prog_7_method_2_code
def yX5_takeInput : MethodName := ⟨RX5, "takeInput", "([BI)V"⟩
abbrev cX11_input : ByteArray := prog_1_method_5_code
def yX11_input : MethodName := ⟨RX11, "input", "()I"⟩
abbrev vwP : List vw_C := [(RX0, TX0, 19), (RX1, TX1, 6), (RX2, TX2, 13), (RX3, TX3, 5), (RX4, TX4, 8), (RX5, TX5, 11), (RX6, TX6, 5), (RX7, TX7, 18), (RX8, TX8, 8), (RX9, TX9, 9), (RX10, TX10, 14), (RX11, TX11, 17), (RX13, TX13, 7), (RX14, TX14, 13), (RX16, TX16, 14), (RX18, TX18, 7), (RX19, TX19, 41), (RJ4, TJ4, 4), (RJx4a65c, TJx4a65c, 3)]
end
section
theorem dX0_init_0 : decode cX0_init 0 = .ok (.aload_n 0, 1) := by decide +kernel
theorem dX0_init_1 : decode cX0_init 1 = .ok (.invokespecial 3, 3) := by decide +kernel
theorem dX0_init_4 : decode cX0_init 4 = .ok (.aload_n 0, 1) := by decide +kernel
theorem dX0_init_5 : decode cX0_init 5 = .ok (.iconst 0, 1) := by decide +kernel
theorem dX0_init_6 : decode cX0_init 6 = .ok (.putfield 9, 3) := by decide +kernel
theorem dX0_init_9 : decode cX0_init 9 = .ok (.aload_n 0, 1) := by decide +kernel
theorem dX0_init_10 : decode cX0_init 10 = .ok (.iconst 0, 1) := by decide +kernel
theorem dX0_init_11 : decode cX0_init 11 = .ok (.putfield 15, 3) := by decide +kernel
theorem dX0_init_14 : decode cX0_init 14 = .ok (.aload_n 0, 1) := by decide +kernel
theorem dX0_init_15 : decode cX0_init 15 = .ok (.iconst 0, 1) := by decide +kernel
theorem dX0_init_16 : decode cX0_init 16 = .ok (.putfield 18, 3) := by decide +kernel
theorem dX0_init_19 : decode cX0_init 19 = .ok (.aload_n 0, 1) := by decide +kernel
theorem dX0_init_20 : decode cX0_init 20 = .ok (.iconst 0, 1) := by decide +kernel
theorem dX0_init_21 : decode cX0_init 21 = .ok (.putfield 21, 3) := by decide +kernel
theorem dX0_init_24 : decode cX0_init 24 = .ok (.aload_n 0, 1) := by decide +kernel
theorem dX0_init_25 : decode cX0_init 25 = .ok (.sipush 301, 3) := by decide +kernel
theorem dX0_init_28 : decode cX0_init 28 = .ok (.newarray .int, 2) := by decide +kernel
theorem dX0_init_30 : decode cX0_init 30 = .ok (.putfield 24, 3) := by decide +kernel
theorem dX0_init_33 : decode cX0_init 33 = .ok (.aload_n 0, 1) := by decide +kernel
theorem dX0_init_34 : decode cX0_init 34 = .ok (.sipush 2000, 3) := by decide +kernel
theorem dX0_init_37 : decode cX0_init 37 = .ok (.newarray .int, 2) := by decide +kernel
theorem dX0_init_39 : decode cX0_init 39 = .ok (.putfield 28, 3) := by decide +kernel
theorem dX0_init_42 : decode cX0_init 42 = .ok (.aload_n 0, 1) := by decide +kernel
theorem dX0_init_43 : decode cX0_init 43 = .ok (.sipush 2000, 3) := by decide +kernel
theorem dX0_init_46 : decode cX0_init 46 = .ok (.newarray .int, 2) := by decide +kernel
theorem dX0_init_48 : decode cX0_init 48 = .ok (.putfield 31, 3) := by decide +kernel
theorem dX0_init_51 : decode cX0_init 51 = .ok (.aload_n 0, 1) := by decide +kernel
theorem dX0_init_52 : decode cX0_init 52 = .ok (.sipush 2000, 3) := by decide +kernel
theorem dX0_init_55 : decode cX0_init 55 = .ok (.newarray .long, 2) := by decide +kernel
theorem dX0_init_57 : decode cX0_init 57 = .ok (.putfield 34, 3) := by decide +kernel
theorem dX0_init_60 : decode cX0_init 60 = .ok (.aload_n 0, 1) := by decide +kernel
theorem dX0_init_61 : decode cX0_init 61 = .ok (.sipush 2000, 3) := by decide +kernel
theorem dX0_init_64 : decode cX0_init 64 = .ok (.newarray .long, 2) := by decide +kernel
theorem dX0_init_66 : decode cX0_init 66 = .ok (.putfield 38, 3) := by decide +kernel
theorem dX0_init_69 : decode cX0_init 69 = .ok (.aload_n 0, 1) := by decide +kernel
theorem dX0_init_70 : decode cX0_init 70 = .ok (.sipush 300, 3) := by decide +kernel
theorem dX0_init_73 : decode cX0_init 73 = .ok (.newarray .int, 2) := by decide +kernel
theorem dX0_init_75 : decode cX0_init 75 = .ok (.putfield 41, 3) := by decide +kernel
theorem dX0_init_78 : decode cX0_init 78 = .ok (.aload_n 0, 1) := by decide +kernel
theorem dX0_init_79 : decode cX0_init 79 = .ok (.sipush 300, 3) := by decide +kernel
theorem dX0_init_82 : decode cX0_init 82 = .ok (.newarray .long, 2) := by decide +kernel
theorem dX0_init_84 : decode cX0_init 84 = .ok (.putfield 44, 3) := by decide +kernel
theorem dX0_init_87 : decode cX0_init 87 = .ok (.aload_n 0, 1) := by decide +kernel
theorem dX0_init_88 : decode cX0_init 88 = .ok (.sipush 300, 3) := by decide +kernel
theorem dX0_init_91 : decode cX0_init 91 = .ok (.newarray .int, 2) := by decide +kernel
theorem dX0_init_93 : decode cX0_init 93 = .ok (.putfield 47, 3) := by decide +kernel
theorem dX0_init_96 : decode cX0_init 96 = .ok (.aload_n 0, 1) := by decide +kernel
theorem dX0_init_97 : decode cX0_init 97 = .ok (.sipush 300, 3) := by decide +kernel
theorem dX0_init_100 : decode cX0_init 100 = .ok (.newarray .int, 2) := by decide +kernel
theorem dX0_init_102 : decode cX0_init 102 = .ok (.putfield 50, 3) := by decide +kernel
theorem dX0_init_105 : decode cX0_init 105 = .ok (.aload_n 0, 1) := by decide +kernel
theorem dX0_init_106 : decode cX0_init 106 = .ok (.sipush 301, 3) := by decide +kernel
theorem dX0_init_109 : decode cX0_init 109 = .ok (.newarray .int, 2) := by decide +kernel
theorem dX0_init_111 : decode cX0_init 111 = .ok (.putfield 53, 3) := by decide +kernel
theorem dX0_init_114 : decode cX0_init 114 = .ok (.aload_n 0, 1) := by decide +kernel
theorem dX0_init_115 : decode cX0_init 115 = .ok (.sipush 600, 3) := by decide +kernel
theorem dX0_init_118 : decode cX0_init 118 = .ok (.newarray .int, 2) := by decide +kernel
theorem dX0_init_120 : decode cX0_init 120 = .ok (.putfield 56, 3) := by decide +kernel
theorem dX0_init_123 : decode cX0_init 123 = .ok (.aload_n 0, 1) := by decide +kernel
theorem dX0_init_124 : decode cX0_init 124 = .ok (.sipush 301, 3) := by decide +kernel
theorem dX0_init_127 : decode cX0_init 127 = .ok (.newarray .int, 2) := by decide +kernel
theorem dX0_init_129 : decode cX0_init 129 = .ok (.putfield 59, 3) := by decide +kernel
theorem dX0_init_132 : decode cX0_init 132 = .ok (.aload_n 0, 1) := by decide +kernel
theorem dX0_init_133 : decode cX0_init 133 = .ok (.sipush 1000, 3) := by decide +kernel
theorem dX0_init_136 : decode cX0_init 136 = .ok (.newarray .int, 2) := by decide +kernel
theorem dX0_init_138 : decode cX0_init 138 = .ok (.putfield 62, 3) := by decide +kernel
theorem dX0_init_141 : decode cX0_init 141 = .ok (.aload_n 0, 1) := by decide +kernel
theorem dX0_init_142 : decode cX0_init 142 = .ok (.sipush 1000, 3) := by decide +kernel
theorem dX0_init_145 : decode cX0_init 145 = .ok (.newarray .int, 2) := by decide +kernel
theorem dX0_init_147 : decode cX0_init 147 = .ok (.putfield 65, 3) := by decide +kernel
theorem dX0_init_150 : decode cX0_init 150 = .ok (.aload_n 0, 1) := by decide +kernel
theorem dX0_init_151 : decode cX0_init 151 = .ok (.sipush 4096, 3) := by decide +kernel
theorem dX0_init_154 : decode cX0_init 154 = .ok (.newarray .long, 2) := by decide +kernel
theorem dX0_init_156 : decode cX0_init 156 = .ok (.putfield 68, 3) := by decide +kernel
theorem dX0_init_159 : decode cX0_init 159 = .ok (.return_, 1) := by decide +kernel
def o_X0_init : List Cond := [.methodLink RX0 3 objectInit, .instanceMethod objectInit, .code objectInit ⟨#[0xb1]⟩ 1 none, .fieldLink RX0 9 "SsaForge$Code" "blocks" "I", .fieldLink RX0 15 "SsaForge$Code" "rows" "I", .fieldLink RX0 18 "SsaForge$Code" "phis" "I", .fieldLink RX0 21 "SsaForge$Code" "argCount" "I", .arrayClass .int, .fieldLink RX0 24 "SsaForge$Code" "rowStart" "[I", .fieldLink RX0 28 "SsaForge$Code" "op" "[I", .fieldLink RX0 31 "SsaForge$Code" "target" "[I", .arrayClass .long, .fieldLink RX0 34 "SsaForge$Code" "left" "[J", .fieldLink RX0 38 "SsaForge$Code" "right" "[J", .fieldLink RX0 41 "SsaForge$Code" "endKind" "[I", .fieldLink RX0 44 "SsaForge$Code" "endUse" "[J", .fieldLink RX0 47 "SsaForge$Code" "goalOne" "[I", .fieldLink RX0 50 "SsaForge$Code" "goalTwo" "[I", .fieldLink RX0 53 "SsaForge$Code" "predStart" "[I", .fieldLink RX0 56 "SsaForge$Code" "preds" "[I", .fieldLink RX0 59 "SsaForge$Code" "phiStart" "[I", .fieldLink RX0 62 "SsaForge$Code" "phiTarget" "[I", .fieldLink RX0 65 "SsaForge$Code" "argStart" "[I", .fieldLink RX0 68 "SsaForge$Code" "args" "[J"]
def v_X0_init : List Cond := .code yX0_init cX0_init 1 none :: (o_X0_init ++ (wsX00 ++ []))
theorem mow_X0_init : ∀ w ∈ o_X0_init, w ∈ v_X0_init := fun _ h => List.mem_cons_of_mem _ (List.mem_append_left _ h)
theorem mem_X0_init_0 : ∀ w ∈ wsX00, w ∈ v_X0_init := fun _ h => List.mem_cons_of_mem _ (List.mem_append_right _ (List.mem_append_left _ h))
set_option maxRecDepth 20000 in
theorem gw_X0_init : v_X0_init.all goodWord = true := by decide +kernel
set_option maxHeartbeats 4000000 in
set_option maxRecDepth 100000 in
theorem c_X0_init (l : Launch) (dC : Nat → ClassId) (dI : Nat → Nat → Nat) (h0 : Nat) (sz : Nat) : Met l yX0_init v_X0_init ({ frames := 1, cells := 15, slots := 16799, locals := 12 }) (va_Pc [.ref h0] (fun U => U.heap.size = sz ∧ va_P (dC, dI) vwP [(h0, .inr (0, [.int 0, .int 0, .int 0, .int 0, .null, .null, .null, .null, .null, .null, .null, .null, .null, .null, .null, .null, .null, .null, .null]))] U.heap ∧ va_K (dC, dI) vwP [] U ∧ va_D (fun _ => True) [(h0, .inr (0, [.int 0, .int 0, .int 0, .int 0, .null, .null, .null, .null, .null, .null, .null, .null, .null, .null, .null, .null, .null, .null, .null]))])) (va_Qv (fun _ : Unit => True) (fun (_ : Unit) (t : State) => ∃ (q_1 : Nat) (q_3 : Nat) (q_5 : Nat) (q_7 : Nat) (q_9 : Nat) (q_11 : Nat) (q_13 : Nat) (q_15 : Nat) (q_17 : Nat) (q_19 : Nat) (q_21 : Nat) (q_23 : Nat) (q_25 : Nat) (q_27 : Nat) (q_29 : Nat) (cA_2 : ClassId) (cA_24 : ClassId), va_P (dC, dI) vwP [(h0, .inr (0, [.int 0, .int 0, .int 0, .int 0, .ref q_1, .ref q_3, .ref q_5, .ref q_7, .ref q_9, .ref q_11, .ref q_13, .ref q_15, .ref q_17, .ref q_19, .ref q_21, .ref q_23, .ref q_25, .ref q_27, .ref q_29])), (q_1, .inl (cA_2, 301, .inl (fun _ => 0))), (q_23, .inl (cA_24, 301, .inl (fun _ => 0)))] t.heap ∧ va_K (dC, dI) vwP [(cA_2, .int), (cA_24, .int)] t ∧ va_D (va_A [(h0, .inr (0, [.int 0, .int 0, .int 0, .int 0, .null, .null, .null, .null, .null, .null, .null, .null, .null, .null, .null, .null, .null, .null, .null]))] sz) [(h0, .inr (0, [.int 0, .int 0, .int 0, .int 0, .ref q_1, .ref q_3, .ref q_5, .ref q_7, .ref q_9, .ref q_11, .ref q_13, .ref q_15, .ref q_17, .ref q_19, .ref q_21, .ref q_23, .ref q_25, .ref q_27, .ref q_29])), (q_1, .inl (cA_2, 301, .inl (fun _ => 0))), (q_23, .inl (cA_24, 301, .inl (fun _ => 0)))]) (va_A [(h0, .inr (0, [.int 0, .int 0, .int 0, .int 0, .null, .null, .null, .null, .null, .null, .null, .null, .null, .null, .null, .null, .null, .null, .null]))] sz)) 15 16799 (va_A [(h0, .inr (0, [.int 0, .int 0, .int 0, .int 0, .null, .null, .null, .null, .null, .null, .null, .null, .null, .null, .null, .null, .null, .null, .null]))] sz) := by
  refine Met.ofW (cc := cX0_init) (maxL := 1) (ret := none) (by decide) rfl ?_
  intro p e s m args below meth c s₁ B hml hv
  obtain ⟨rfl, hsz, hP, hK, hD0⟩ := hv
  have hx := B.exec
  have hb := B.bytes
  have hr := B.returns
  have hts := atoms_spec (ws := v_X0_init) B.pre
  have hown : s.vm.findClass RX0 = some m.cls := findClass_of_methodNamed B.named
  have hlocks := B.notSynchronized
  have ow : ∀ {k : Nat} {w : Cond}, o_X0_init[k]? = some w → w.before ([.ref h0] : List Value).toArray s = true := fun h => hts _ (mow_X0_init _ (List.mem_of_getElem? h))
  have hin : meth.name = "<init>" := (name_of_methodNamed B.named B.method).1
  subst hsz
  have hD := hD0.self (sz := s.heap.size)
  generalize hAe : va_A [(h0, .inr (0, [.int 0, .int 0, .int 0, .int 0, .null, .null, .null, .null, .null, .null, .null, .null, .null, .null, .null, .null, .null, .null, .null]))] s.heap.size = A at hD ⊢
  have hA : ∀ q : Nat, s.heap.size ≤ q → A q := fun q h => by rw [← hAe]; exact Or.inr h
  have hS : va_S A s.heap s.heap [] := va_S.rf
  have hP : va_P (dC, dI) vwP [(h0, .inr (0, [.int 0, .int 0, .int 0, .int 0, .null, .null, .null, .null, .null, .null, .null, .null, .null, .null, .null, .null, .null, .null, .null]))] s.heap := hP
  have hl := lv_entry ([.ref h0]) (n := 1) (Nat.le_of_ble_eq_true rfl)
  rw [lg_entry_eq]
  generalize (lg_sl ([.ref h0]) ++ List.replicate (1 - (lg_sl ([.ref h0])).length) Slot.unset).toArray = ls at hl ⊢
  have hl : lv_has ls 1 [(0, .ref h0)] := hl
  obtain ⟨H, hH⟩ : ∃ H, H = s.heap := ⟨_, rfl⟩
  rw [← hH] at hP
  have hS : va_S A s.heap H [] := by rw [hH]; exact hS
  rw [← hH]
  refine lv_aload_n hx hb dX0_init_0 rfl (lv_at hl 0 rfl) ?_
  refine W.objInit hx hb hown (ow (k := 0) rfl) (ow (k := 1) rfl) (ow (k := 2) rfl) rfl (by rw [hml]; exact hl.1) rfl dX0_init_1 (Nat.le_of_ble_eq_true rfl) (Nat.le_of_ble_eq_true rfl) ?_
  refine W.eq (g2 := F0 m 4 ls []) rfl ?_
  refine lv_aload_n hx hb dX0_init_4 rfl (lv_at hl 0 rfl) ?_
  refine lv_iconst (v := 0) hx hb dX0_init_5 (by decide) ?_
  refine va_put (D := (dC, dI)) (ci := 0) (v := .int 0) (ty := .int) (C := RX0) (T := TX0) (N := 19) hx hb hts mem_X0_init_0 tyX0 tyX0_ok nmX0 hown hK hP hD hS 0 rfl rfl 0 (by decide) (ow (k := 3) rfl) (fun _ h9 => h9) rfl (by decide +kernel) rfl rfl (Nat.le_of_ble_eq_true rfl) dX0_init_6 (fun H locs hP hD hS => ?_)
  have hP : va_P (dC, dI) vwP [(h0, .inr (0, [.int 0, .int 0, .int 0, .int 0, .null, .null, .null, .null, .null, .null, .null, .null, .null, .null, .null, .null, .null, .null, .null]))] H := hP
  have hD : va_D A [(h0, .inr (0, [.int 0, .int 0, .int 0, .int 0, .null, .null, .null, .null, .null, .null, .null, .null, .null, .null, .null, .null, .null, .null, .null]))] := hD
  refine lv_aload_n hx hb dX0_init_9 rfl (lv_at hl 0 rfl) ?_
  refine lv_iconst (v := 0) hx hb dX0_init_10 (by decide) ?_
  refine va_put (D := (dC, dI)) (ci := 0) (v := .int 0) (ty := .int) (C := RX0) (T := TX0) (N := 19) hx hb hts mem_X0_init_0 tyX0 tyX0_ok nmX0 hown hK hP hD hS 0 rfl rfl 1 (by decide) (ow (k := 4) rfl) (fun _ h9 => h9) rfl (by decide +kernel) rfl rfl (Nat.le_of_ble_eq_true rfl) dX0_init_11 (fun H locs hP hD hS => ?_)
  have hP : va_P (dC, dI) vwP [(h0, .inr (0, [.int 0, .int 0, .int 0, .int 0, .null, .null, .null, .null, .null, .null, .null, .null, .null, .null, .null, .null, .null, .null, .null]))] H := hP
  have hD : va_D A [(h0, .inr (0, [.int 0, .int 0, .int 0, .int 0, .null, .null, .null, .null, .null, .null, .null, .null, .null, .null, .null, .null, .null, .null, .null]))] := hD
  refine lv_aload_n hx hb dX0_init_14 rfl (lv_at hl 0 rfl) ?_
  refine lv_iconst (v := 0) hx hb dX0_init_15 (by decide) ?_
  refine va_put (D := (dC, dI)) (ci := 0) (v := .int 0) (ty := .int) (C := RX0) (T := TX0) (N := 19) hx hb hts mem_X0_init_0 tyX0 tyX0_ok nmX0 hown hK hP hD hS 0 rfl rfl 2 (by decide) (ow (k := 5) rfl) (fun _ h9 => h9) rfl (by decide +kernel) rfl rfl (Nat.le_of_ble_eq_true rfl) dX0_init_16 (fun H locs hP hD hS => ?_)
  have hP : va_P (dC, dI) vwP [(h0, .inr (0, [.int 0, .int 0, .int 0, .int 0, .null, .null, .null, .null, .null, .null, .null, .null, .null, .null, .null, .null, .null, .null, .null]))] H := hP
  have hD : va_D A [(h0, .inr (0, [.int 0, .int 0, .int 0, .int 0, .null, .null, .null, .null, .null, .null, .null, .null, .null, .null, .null, .null, .null, .null, .null]))] := hD
  refine lv_aload_n hx hb dX0_init_19 rfl (lv_at hl 0 rfl) ?_
  refine lv_iconst (v := 0) hx hb dX0_init_20 (by decide) ?_
  refine va_put (D := (dC, dI)) (ci := 0) (v := .int 0) (ty := .int) (C := RX0) (T := TX0) (N := 19) hx hb hts mem_X0_init_0 tyX0 tyX0_ok nmX0 hown hK hP hD hS 0 rfl rfl 3 (by decide) (ow (k := 6) rfl) (fun _ h9 => h9) rfl (by decide +kernel) rfl rfl (Nat.le_of_ble_eq_true rfl) dX0_init_21 (fun H locs hP hD hS => ?_)
  have hP : va_P (dC, dI) vwP [(h0, .inr (0, [.int 0, .int 0, .int 0, .int 0, .null, .null, .null, .null, .null, .null, .null, .null, .null, .null, .null, .null, .null, .null, .null]))] H := hP
  have hD : va_D A [(h0, .inr (0, [.int 0, .int 0, .int 0, .int 0, .null, .null, .null, .null, .null, .null, .null, .null, .null, .null, .null, .null, .null, .null, .null]))] := hD
  refine lv_aload_n hx hb dX0_init_24 rfl (lv_at hl 0 rfl) ?_
  refine lv_sipush (v := 301) hx hb dX0_init_25 (by decide) ?_
  refine va_newa (ty := .int) (n := 301) (N' := 301) (a0 := (301, .inl (fun _ => 0))) hx hb (ow (k := 7) rfl) rfl hK hP hD hS hA (fun _ => rfl) (by decide) (by decide) (by decide) (Nat.le_of_ble_eq_true rfl) (Nat.le_of_ble_eq_true rfl) dX0_init_28 (fun q_1 cA_2 H hK hP hD hS => ?_)
  have hP : va_P (dC, dI) vwP [(h0, .inr (0, [.int 0, .int 0, .int 0, .int 0, .null, .null, .null, .null, .null, .null, .null, .null, .null, .null, .null, .null, .null, .null, .null])), (q_1, .inl (cA_2, 301, .inl (fun _ => 0)))] H := hP
  have hD : va_D A [(h0, .inr (0, [.int 0, .int 0, .int 0, .int 0, .null, .null, .null, .null, .null, .null, .null, .null, .null, .null, .null, .null, .null, .null, .null])), (q_1, .inl (cA_2, 301, .inl (fun _ => 0)))] := hD
  have hK : va_K (dC, dI) vwP [(cA_2, .int)] s := hK
  refine W.widen (k := 1) (n := 301) (Nat.le_of_ble_eq_true rfl) (Nat.le_of_ble_eq_true rfl) ?_
  refine va_putF (D := (dC, dI)) (ci := 0) (v := .ref q_1) (ty := .array .int) (C := RX0) (T := TX0) (N := 19) hx hb hts mem_X0_init_0 tyX0 tyX0_ok nmX0 hown hK hP hD hS 0 rfl rfl 4 (by decide) (ow (k := 8) rfl) (fun _ h9 => h9) rfl hin rfl (by decide +kernel) rfl rfl (Nat.le_of_ble_eq_true rfl) dX0_init_30 (fun H locs hP hD hS => ?_)
  have hP : va_P (dC, dI) vwP [(h0, .inr (0, [.int 0, .int 0, .int 0, .int 0, .ref q_1, .null, .null, .null, .null, .null, .null, .null, .null, .null, .null, .null, .null, .null, .null])), (q_1, .inl (cA_2, 301, .inl (fun _ => 0)))] H := hP
  have hD : va_D A [(h0, .inr (0, [.int 0, .int 0, .int 0, .int 0, .ref q_1, .null, .null, .null, .null, .null, .null, .null, .null, .null, .null, .null, .null, .null, .null])), (q_1, .inl (cA_2, 301, .inl (fun _ => 0)))] := hD
  refine lv_aload_n hx hb dX0_init_33 rfl (lv_at hl 0 rfl) ?_
  refine lv_sipush (v := 2000) hx hb dX0_init_34 (by decide) ?_
  refine va_newa (ty := .int) (n := 2000) (N' := 2000) (a0 := (2000, .inl (fun _ => 0))) hx hb (ow (k := 7) rfl) rfl hK hP hD hS hA (fun _ => rfl) (by decide) (by decide) (by decide) (Nat.le_of_ble_eq_true rfl) (Nat.le_of_ble_eq_true rfl) dX0_init_37 (fun q_3 cA_4 H hK hP hD hS => ?_)
  have hP : va_P (dC, dI) vwP [(h0, .inr (0, [.int 0, .int 0, .int 0, .int 0, .ref q_1, .null, .null, .null, .null, .null, .null, .null, .null, .null, .null, .null, .null, .null, .null])), (q_1, .inl (cA_2, 301, .inl (fun _ => 0))), (q_3, .inl (cA_4, 2000, .inl (fun _ => 0)))] H := hP
  have hD : va_D A [(h0, .inr (0, [.int 0, .int 0, .int 0, .int 0, .ref q_1, .null, .null, .null, .null, .null, .null, .null, .null, .null, .null, .null, .null, .null, .null])), (q_1, .inl (cA_2, 301, .inl (fun _ => 0))), (q_3, .inl (cA_4, 2000, .inl (fun _ => 0)))] := hD
  have hK : va_K (dC, dI) vwP [(cA_2, .int), (cA_4, .int)] s := hK
  refine W.widen (k := 2) (n := 2301) (Nat.le_of_ble_eq_true rfl) (Nat.le_of_ble_eq_true rfl) ?_
  refine va_putF (D := (dC, dI)) (ci := 0) (v := .ref q_3) (ty := .array .int) (C := RX0) (T := TX0) (N := 19) hx hb hts mem_X0_init_0 tyX0 tyX0_ok nmX0 hown hK hP hD hS 0 rfl rfl 5 (by decide) (ow (k := 9) rfl) (fun _ h9 => h9) rfl hin rfl (by decide +kernel) rfl rfl (Nat.le_of_ble_eq_true rfl) dX0_init_39 (fun H locs hP hD hS => ?_)
  have hP : va_P (dC, dI) vwP [(h0, .inr (0, [.int 0, .int 0, .int 0, .int 0, .ref q_1, .ref q_3, .null, .null, .null, .null, .null, .null, .null, .null, .null, .null, .null, .null, .null])), (q_1, .inl (cA_2, 301, .inl (fun _ => 0))), (q_3, .inl (cA_4, 2000, .inl (fun _ => 0)))] H := hP
  have hD : va_D A [(h0, .inr (0, [.int 0, .int 0, .int 0, .int 0, .ref q_1, .ref q_3, .null, .null, .null, .null, .null, .null, .null, .null, .null, .null, .null, .null, .null])), (q_1, .inl (cA_2, 301, .inl (fun _ => 0))), (q_3, .inl (cA_4, 2000, .inl (fun _ => 0)))] := hD
  have hP := hP.sub (ws' := [(h0, .inr (0, [.int 0, .int 0, .int 0, .int 0, .ref q_1, .ref q_3, .null, .null, .null, .null, .null, .null, .null, .null, .null, .null, .null, .null, .null])), (q_1, .inl (cA_2, 301, .inl (fun _ => 0)))]) [0, 1] rfl
  have hD := hD.sub (ws' := [(h0, .inr (0, [.int 0, .int 0, .int 0, .int 0, .ref q_1, .ref q_3, .null, .null, .null, .null, .null, .null, .null, .null, .null, .null, .null, .null, .null])), (q_1, .inl (cA_2, 301, .inl (fun _ => 0)))]) [0, 1] (by decide) rfl
  have hK := hK.sub (tys' := [(cA_2, .int)]) [0] rfl
  refine lv_aload_n hx hb dX0_init_42 rfl (lv_at hl 0 rfl) ?_
  refine lv_sipush (v := 2000) hx hb dX0_init_43 (by decide) ?_
  refine va_newa (ty := .int) (n := 2000) (N' := 2000) (a0 := (2000, .inl (fun _ => 0))) hx hb (ow (k := 7) rfl) rfl hK hP hD hS hA (fun _ => rfl) (by decide) (by decide) (by decide) (Nat.le_of_ble_eq_true rfl) (Nat.le_of_ble_eq_true rfl) dX0_init_46 (fun q_5 cA_6 H hK hP hD hS => ?_)
  have hP : va_P (dC, dI) vwP [(h0, .inr (0, [.int 0, .int 0, .int 0, .int 0, .ref q_1, .ref q_3, .null, .null, .null, .null, .null, .null, .null, .null, .null, .null, .null, .null, .null])), (q_1, .inl (cA_2, 301, .inl (fun _ => 0))), (q_5, .inl (cA_6, 2000, .inl (fun _ => 0)))] H := hP
  have hD : va_D A [(h0, .inr (0, [.int 0, .int 0, .int 0, .int 0, .ref q_1, .ref q_3, .null, .null, .null, .null, .null, .null, .null, .null, .null, .null, .null, .null, .null])), (q_1, .inl (cA_2, 301, .inl (fun _ => 0))), (q_5, .inl (cA_6, 2000, .inl (fun _ => 0)))] := hD
  have hK : va_K (dC, dI) vwP [(cA_2, .int), (cA_6, .int)] s := hK
  refine W.widen (k := 3) (n := 4301) (Nat.le_of_ble_eq_true rfl) (Nat.le_of_ble_eq_true rfl) ?_
  refine va_putF (D := (dC, dI)) (ci := 0) (v := .ref q_5) (ty := .array .int) (C := RX0) (T := TX0) (N := 19) hx hb hts mem_X0_init_0 tyX0 tyX0_ok nmX0 hown hK hP hD hS 0 rfl rfl 6 (by decide) (ow (k := 10) rfl) (fun _ h9 => h9) rfl hin rfl (by decide +kernel) rfl rfl (Nat.le_of_ble_eq_true rfl) dX0_init_48 (fun H locs hP hD hS => ?_)
  have hP : va_P (dC, dI) vwP [(h0, .inr (0, [.int 0, .int 0, .int 0, .int 0, .ref q_1, .ref q_3, .ref q_5, .null, .null, .null, .null, .null, .null, .null, .null, .null, .null, .null, .null])), (q_1, .inl (cA_2, 301, .inl (fun _ => 0))), (q_5, .inl (cA_6, 2000, .inl (fun _ => 0)))] H := hP
  have hD : va_D A [(h0, .inr (0, [.int 0, .int 0, .int 0, .int 0, .ref q_1, .ref q_3, .ref q_5, .null, .null, .null, .null, .null, .null, .null, .null, .null, .null, .null, .null])), (q_1, .inl (cA_2, 301, .inl (fun _ => 0))), (q_5, .inl (cA_6, 2000, .inl (fun _ => 0)))] := hD
  have hP := hP.sub (ws' := [(h0, .inr (0, [.int 0, .int 0, .int 0, .int 0, .ref q_1, .ref q_3, .ref q_5, .null, .null, .null, .null, .null, .null, .null, .null, .null, .null, .null, .null])), (q_1, .inl (cA_2, 301, .inl (fun _ => 0)))]) [0, 1] rfl
  have hD := hD.sub (ws' := [(h0, .inr (0, [.int 0, .int 0, .int 0, .int 0, .ref q_1, .ref q_3, .ref q_5, .null, .null, .null, .null, .null, .null, .null, .null, .null, .null, .null, .null])), (q_1, .inl (cA_2, 301, .inl (fun _ => 0)))]) [0, 1] (by decide) rfl
  have hK := hK.sub (tys' := [(cA_2, .int)]) [0] rfl
  refine lv_aload_n hx hb dX0_init_51 rfl (lv_at hl 0 rfl) ?_
  refine lv_sipush (v := 2000) hx hb dX0_init_52 (by decide) ?_
  refine va_newa (ty := .long) (n := 2000) (N' := 2000) (a0 := (2000, .inr (.inl (fun _ => 0)))) hx hb (ow (k := 11) rfl) rfl hK hP hD hS hA (fun _ => rfl) (by decide) (by decide) (by decide) (Nat.le_of_ble_eq_true rfl) (Nat.le_of_ble_eq_true rfl) dX0_init_55 (fun q_7 cA_8 H hK hP hD hS => ?_)
  have hP : va_P (dC, dI) vwP [(h0, .inr (0, [.int 0, .int 0, .int 0, .int 0, .ref q_1, .ref q_3, .ref q_5, .null, .null, .null, .null, .null, .null, .null, .null, .null, .null, .null, .null])), (q_1, .inl (cA_2, 301, .inl (fun _ => 0))), (q_7, .inl (cA_8, 2000, .inr (.inl (fun _ => 0))))] H := hP
  have hD : va_D A [(h0, .inr (0, [.int 0, .int 0, .int 0, .int 0, .ref q_1, .ref q_3, .ref q_5, .null, .null, .null, .null, .null, .null, .null, .null, .null, .null, .null, .null])), (q_1, .inl (cA_2, 301, .inl (fun _ => 0))), (q_7, .inl (cA_8, 2000, .inr (.inl (fun _ => 0))))] := hD
  have hK : va_K (dC, dI) vwP [(cA_2, .int), (cA_8, .long)] s := hK
  refine W.widen (k := 4) (n := 6301) (Nat.le_of_ble_eq_true rfl) (Nat.le_of_ble_eq_true rfl) ?_
  refine va_putF (D := (dC, dI)) (ci := 0) (v := .ref q_7) (ty := .array .long) (C := RX0) (T := TX0) (N := 19) hx hb hts mem_X0_init_0 tyX0 tyX0_ok nmX0 hown hK hP hD hS 0 rfl rfl 7 (by decide) (ow (k := 12) rfl) (fun _ h9 => h9) rfl hin rfl (by decide +kernel) rfl rfl (Nat.le_of_ble_eq_true rfl) dX0_init_57 (fun H locs hP hD hS => ?_)
  have hP : va_P (dC, dI) vwP [(h0, .inr (0, [.int 0, .int 0, .int 0, .int 0, .ref q_1, .ref q_3, .ref q_5, .ref q_7, .null, .null, .null, .null, .null, .null, .null, .null, .null, .null, .null])), (q_1, .inl (cA_2, 301, .inl (fun _ => 0))), (q_7, .inl (cA_8, 2000, .inr (.inl (fun _ => 0))))] H := hP
  have hD : va_D A [(h0, .inr (0, [.int 0, .int 0, .int 0, .int 0, .ref q_1, .ref q_3, .ref q_5, .ref q_7, .null, .null, .null, .null, .null, .null, .null, .null, .null, .null, .null])), (q_1, .inl (cA_2, 301, .inl (fun _ => 0))), (q_7, .inl (cA_8, 2000, .inr (.inl (fun _ => 0))))] := hD
  have hP := hP.sub (ws' := [(h0, .inr (0, [.int 0, .int 0, .int 0, .int 0, .ref q_1, .ref q_3, .ref q_5, .ref q_7, .null, .null, .null, .null, .null, .null, .null, .null, .null, .null, .null])), (q_1, .inl (cA_2, 301, .inl (fun _ => 0)))]) [0, 1] rfl
  have hD := hD.sub (ws' := [(h0, .inr (0, [.int 0, .int 0, .int 0, .int 0, .ref q_1, .ref q_3, .ref q_5, .ref q_7, .null, .null, .null, .null, .null, .null, .null, .null, .null, .null, .null])), (q_1, .inl (cA_2, 301, .inl (fun _ => 0)))]) [0, 1] (by decide) rfl
  have hK := hK.sub (tys' := [(cA_2, .int)]) [0] rfl
  refine lv_aload_n hx hb dX0_init_60 rfl (lv_at hl 0 rfl) ?_
  refine lv_sipush (v := 2000) hx hb dX0_init_61 (by decide) ?_
  refine va_newa (ty := .long) (n := 2000) (N' := 2000) (a0 := (2000, .inr (.inl (fun _ => 0)))) hx hb (ow (k := 11) rfl) rfl hK hP hD hS hA (fun _ => rfl) (by decide) (by decide) (by decide) (Nat.le_of_ble_eq_true rfl) (Nat.le_of_ble_eq_true rfl) dX0_init_64 (fun q_9 cA_10 H hK hP hD hS => ?_)
  have hP : va_P (dC, dI) vwP [(h0, .inr (0, [.int 0, .int 0, .int 0, .int 0, .ref q_1, .ref q_3, .ref q_5, .ref q_7, .null, .null, .null, .null, .null, .null, .null, .null, .null, .null, .null])), (q_1, .inl (cA_2, 301, .inl (fun _ => 0))), (q_9, .inl (cA_10, 2000, .inr (.inl (fun _ => 0))))] H := hP
  have hD : va_D A [(h0, .inr (0, [.int 0, .int 0, .int 0, .int 0, .ref q_1, .ref q_3, .ref q_5, .ref q_7, .null, .null, .null, .null, .null, .null, .null, .null, .null, .null, .null])), (q_1, .inl (cA_2, 301, .inl (fun _ => 0))), (q_9, .inl (cA_10, 2000, .inr (.inl (fun _ => 0))))] := hD
  have hK : va_K (dC, dI) vwP [(cA_2, .int), (cA_10, .long)] s := hK
  refine W.widen (k := 5) (n := 8301) (Nat.le_of_ble_eq_true rfl) (Nat.le_of_ble_eq_true rfl) ?_
  refine va_putF (D := (dC, dI)) (ci := 0) (v := .ref q_9) (ty := .array .long) (C := RX0) (T := TX0) (N := 19) hx hb hts mem_X0_init_0 tyX0 tyX0_ok nmX0 hown hK hP hD hS 0 rfl rfl 8 (by decide) (ow (k := 13) rfl) (fun _ h9 => h9) rfl hin rfl (by decide +kernel) rfl rfl (Nat.le_of_ble_eq_true rfl) dX0_init_66 (fun H locs hP hD hS => ?_)
  have hP : va_P (dC, dI) vwP [(h0, .inr (0, [.int 0, .int 0, .int 0, .int 0, .ref q_1, .ref q_3, .ref q_5, .ref q_7, .ref q_9, .null, .null, .null, .null, .null, .null, .null, .null, .null, .null])), (q_1, .inl (cA_2, 301, .inl (fun _ => 0))), (q_9, .inl (cA_10, 2000, .inr (.inl (fun _ => 0))))] H := hP
  have hD : va_D A [(h0, .inr (0, [.int 0, .int 0, .int 0, .int 0, .ref q_1, .ref q_3, .ref q_5, .ref q_7, .ref q_9, .null, .null, .null, .null, .null, .null, .null, .null, .null, .null])), (q_1, .inl (cA_2, 301, .inl (fun _ => 0))), (q_9, .inl (cA_10, 2000, .inr (.inl (fun _ => 0))))] := hD
  have hP := hP.sub (ws' := [(h0, .inr (0, [.int 0, .int 0, .int 0, .int 0, .ref q_1, .ref q_3, .ref q_5, .ref q_7, .ref q_9, .null, .null, .null, .null, .null, .null, .null, .null, .null, .null])), (q_1, .inl (cA_2, 301, .inl (fun _ => 0)))]) [0, 1] rfl
  have hD := hD.sub (ws' := [(h0, .inr (0, [.int 0, .int 0, .int 0, .int 0, .ref q_1, .ref q_3, .ref q_5, .ref q_7, .ref q_9, .null, .null, .null, .null, .null, .null, .null, .null, .null, .null])), (q_1, .inl (cA_2, 301, .inl (fun _ => 0)))]) [0, 1] (by decide) rfl
  have hK := hK.sub (tys' := [(cA_2, .int)]) [0] rfl
  refine lv_aload_n hx hb dX0_init_69 rfl (lv_at hl 0 rfl) ?_
  refine lv_sipush (v := 300) hx hb dX0_init_70 (by decide) ?_
  refine va_newa (ty := .int) (n := 300) (N' := 300) (a0 := (300, .inl (fun _ => 0))) hx hb (ow (k := 7) rfl) rfl hK hP hD hS hA (fun _ => rfl) (by decide) (by decide) (by decide) (Nat.le_of_ble_eq_true rfl) (Nat.le_of_ble_eq_true rfl) dX0_init_73 (fun q_11 cA_12 H hK hP hD hS => ?_)
  have hP : va_P (dC, dI) vwP [(h0, .inr (0, [.int 0, .int 0, .int 0, .int 0, .ref q_1, .ref q_3, .ref q_5, .ref q_7, .ref q_9, .null, .null, .null, .null, .null, .null, .null, .null, .null, .null])), (q_1, .inl (cA_2, 301, .inl (fun _ => 0))), (q_11, .inl (cA_12, 300, .inl (fun _ => 0)))] H := hP
  have hD : va_D A [(h0, .inr (0, [.int 0, .int 0, .int 0, .int 0, .ref q_1, .ref q_3, .ref q_5, .ref q_7, .ref q_9, .null, .null, .null, .null, .null, .null, .null, .null, .null, .null])), (q_1, .inl (cA_2, 301, .inl (fun _ => 0))), (q_11, .inl (cA_12, 300, .inl (fun _ => 0)))] := hD
  have hK : va_K (dC, dI) vwP [(cA_2, .int), (cA_12, .int)] s := hK
  refine W.widen (k := 6) (n := 8601) (Nat.le_of_ble_eq_true rfl) (Nat.le_of_ble_eq_true rfl) ?_
  refine va_putF (D := (dC, dI)) (ci := 0) (v := .ref q_11) (ty := .array .int) (C := RX0) (T := TX0) (N := 19) hx hb hts mem_X0_init_0 tyX0 tyX0_ok nmX0 hown hK hP hD hS 0 rfl rfl 9 (by decide) (ow (k := 14) rfl) (fun _ h9 => h9) rfl hin rfl (by decide +kernel) rfl rfl (Nat.le_of_ble_eq_true rfl) dX0_init_75 (fun H locs hP hD hS => ?_)
  have hP : va_P (dC, dI) vwP [(h0, .inr (0, [.int 0, .int 0, .int 0, .int 0, .ref q_1, .ref q_3, .ref q_5, .ref q_7, .ref q_9, .ref q_11, .null, .null, .null, .null, .null, .null, .null, .null, .null])), (q_1, .inl (cA_2, 301, .inl (fun _ => 0))), (q_11, .inl (cA_12, 300, .inl (fun _ => 0)))] H := hP
  have hD : va_D A [(h0, .inr (0, [.int 0, .int 0, .int 0, .int 0, .ref q_1, .ref q_3, .ref q_5, .ref q_7, .ref q_9, .ref q_11, .null, .null, .null, .null, .null, .null, .null, .null, .null])), (q_1, .inl (cA_2, 301, .inl (fun _ => 0))), (q_11, .inl (cA_12, 300, .inl (fun _ => 0)))] := hD
  have hP := hP.sub (ws' := [(h0, .inr (0, [.int 0, .int 0, .int 0, .int 0, .ref q_1, .ref q_3, .ref q_5, .ref q_7, .ref q_9, .ref q_11, .null, .null, .null, .null, .null, .null, .null, .null, .null])), (q_1, .inl (cA_2, 301, .inl (fun _ => 0)))]) [0, 1] rfl
  have hD := hD.sub (ws' := [(h0, .inr (0, [.int 0, .int 0, .int 0, .int 0, .ref q_1, .ref q_3, .ref q_5, .ref q_7, .ref q_9, .ref q_11, .null, .null, .null, .null, .null, .null, .null, .null, .null])), (q_1, .inl (cA_2, 301, .inl (fun _ => 0)))]) [0, 1] (by decide) rfl
  have hK := hK.sub (tys' := [(cA_2, .int)]) [0] rfl
  refine lv_aload_n hx hb dX0_init_78 rfl (lv_at hl 0 rfl) ?_
  refine lv_sipush (v := 300) hx hb dX0_init_79 (by decide) ?_
  refine va_newa (ty := .long) (n := 300) (N' := 300) (a0 := (300, .inr (.inl (fun _ => 0)))) hx hb (ow (k := 11) rfl) rfl hK hP hD hS hA (fun _ => rfl) (by decide) (by decide) (by decide) (Nat.le_of_ble_eq_true rfl) (Nat.le_of_ble_eq_true rfl) dX0_init_82 (fun q_13 cA_14 H hK hP hD hS => ?_)
  have hP : va_P (dC, dI) vwP [(h0, .inr (0, [.int 0, .int 0, .int 0, .int 0, .ref q_1, .ref q_3, .ref q_5, .ref q_7, .ref q_9, .ref q_11, .null, .null, .null, .null, .null, .null, .null, .null, .null])), (q_1, .inl (cA_2, 301, .inl (fun _ => 0))), (q_13, .inl (cA_14, 300, .inr (.inl (fun _ => 0))))] H := hP
  have hD : va_D A [(h0, .inr (0, [.int 0, .int 0, .int 0, .int 0, .ref q_1, .ref q_3, .ref q_5, .ref q_7, .ref q_9, .ref q_11, .null, .null, .null, .null, .null, .null, .null, .null, .null])), (q_1, .inl (cA_2, 301, .inl (fun _ => 0))), (q_13, .inl (cA_14, 300, .inr (.inl (fun _ => 0))))] := hD
  have hK : va_K (dC, dI) vwP [(cA_2, .int), (cA_14, .long)] s := hK
  refine W.widen (k := 7) (n := 8901) (Nat.le_of_ble_eq_true rfl) (Nat.le_of_ble_eq_true rfl) ?_
  refine va_putF (D := (dC, dI)) (ci := 0) (v := .ref q_13) (ty := .array .long) (C := RX0) (T := TX0) (N := 19) hx hb hts mem_X0_init_0 tyX0 tyX0_ok nmX0 hown hK hP hD hS 0 rfl rfl 10 (by decide) (ow (k := 15) rfl) (fun _ h9 => h9) rfl hin rfl (by decide +kernel) rfl rfl (Nat.le_of_ble_eq_true rfl) dX0_init_84 (fun H locs hP hD hS => ?_)
  have hP : va_P (dC, dI) vwP [(h0, .inr (0, [.int 0, .int 0, .int 0, .int 0, .ref q_1, .ref q_3, .ref q_5, .ref q_7, .ref q_9, .ref q_11, .ref q_13, .null, .null, .null, .null, .null, .null, .null, .null])), (q_1, .inl (cA_2, 301, .inl (fun _ => 0))), (q_13, .inl (cA_14, 300, .inr (.inl (fun _ => 0))))] H := hP
  have hD : va_D A [(h0, .inr (0, [.int 0, .int 0, .int 0, .int 0, .ref q_1, .ref q_3, .ref q_5, .ref q_7, .ref q_9, .ref q_11, .ref q_13, .null, .null, .null, .null, .null, .null, .null, .null])), (q_1, .inl (cA_2, 301, .inl (fun _ => 0))), (q_13, .inl (cA_14, 300, .inr (.inl (fun _ => 0))))] := hD
  have hP := hP.sub (ws' := [(h0, .inr (0, [.int 0, .int 0, .int 0, .int 0, .ref q_1, .ref q_3, .ref q_5, .ref q_7, .ref q_9, .ref q_11, .ref q_13, .null, .null, .null, .null, .null, .null, .null, .null])), (q_1, .inl (cA_2, 301, .inl (fun _ => 0)))]) [0, 1] rfl
  have hD := hD.sub (ws' := [(h0, .inr (0, [.int 0, .int 0, .int 0, .int 0, .ref q_1, .ref q_3, .ref q_5, .ref q_7, .ref q_9, .ref q_11, .ref q_13, .null, .null, .null, .null, .null, .null, .null, .null])), (q_1, .inl (cA_2, 301, .inl (fun _ => 0)))]) [0, 1] (by decide) rfl
  have hK := hK.sub (tys' := [(cA_2, .int)]) [0] rfl
  refine lv_aload_n hx hb dX0_init_87 rfl (lv_at hl 0 rfl) ?_
  refine lv_sipush (v := 300) hx hb dX0_init_88 (by decide) ?_
  refine va_newa (ty := .int) (n := 300) (N' := 300) (a0 := (300, .inl (fun _ => 0))) hx hb (ow (k := 7) rfl) rfl hK hP hD hS hA (fun _ => rfl) (by decide) (by decide) (by decide) (Nat.le_of_ble_eq_true rfl) (Nat.le_of_ble_eq_true rfl) dX0_init_91 (fun q_15 cA_16 H hK hP hD hS => ?_)
  have hP : va_P (dC, dI) vwP [(h0, .inr (0, [.int 0, .int 0, .int 0, .int 0, .ref q_1, .ref q_3, .ref q_5, .ref q_7, .ref q_9, .ref q_11, .ref q_13, .null, .null, .null, .null, .null, .null, .null, .null])), (q_1, .inl (cA_2, 301, .inl (fun _ => 0))), (q_15, .inl (cA_16, 300, .inl (fun _ => 0)))] H := hP
  have hD : va_D A [(h0, .inr (0, [.int 0, .int 0, .int 0, .int 0, .ref q_1, .ref q_3, .ref q_5, .ref q_7, .ref q_9, .ref q_11, .ref q_13, .null, .null, .null, .null, .null, .null, .null, .null])), (q_1, .inl (cA_2, 301, .inl (fun _ => 0))), (q_15, .inl (cA_16, 300, .inl (fun _ => 0)))] := hD
  have hK : va_K (dC, dI) vwP [(cA_2, .int), (cA_16, .int)] s := hK
  refine W.widen (k := 8) (n := 9201) (Nat.le_of_ble_eq_true rfl) (Nat.le_of_ble_eq_true rfl) ?_
  refine va_putF (D := (dC, dI)) (ci := 0) (v := .ref q_15) (ty := .array .int) (C := RX0) (T := TX0) (N := 19) hx hb hts mem_X0_init_0 tyX0 tyX0_ok nmX0 hown hK hP hD hS 0 rfl rfl 11 (by decide) (ow (k := 16) rfl) (fun _ h9 => h9) rfl hin rfl (by decide +kernel) rfl rfl (Nat.le_of_ble_eq_true rfl) dX0_init_93 (fun H locs hP hD hS => ?_)
  have hP : va_P (dC, dI) vwP [(h0, .inr (0, [.int 0, .int 0, .int 0, .int 0, .ref q_1, .ref q_3, .ref q_5, .ref q_7, .ref q_9, .ref q_11, .ref q_13, .ref q_15, .null, .null, .null, .null, .null, .null, .null])), (q_1, .inl (cA_2, 301, .inl (fun _ => 0))), (q_15, .inl (cA_16, 300, .inl (fun _ => 0)))] H := hP
  have hD : va_D A [(h0, .inr (0, [.int 0, .int 0, .int 0, .int 0, .ref q_1, .ref q_3, .ref q_5, .ref q_7, .ref q_9, .ref q_11, .ref q_13, .ref q_15, .null, .null, .null, .null, .null, .null, .null])), (q_1, .inl (cA_2, 301, .inl (fun _ => 0))), (q_15, .inl (cA_16, 300, .inl (fun _ => 0)))] := hD
  have hP := hP.sub (ws' := [(h0, .inr (0, [.int 0, .int 0, .int 0, .int 0, .ref q_1, .ref q_3, .ref q_5, .ref q_7, .ref q_9, .ref q_11, .ref q_13, .ref q_15, .null, .null, .null, .null, .null, .null, .null])), (q_1, .inl (cA_2, 301, .inl (fun _ => 0)))]) [0, 1] rfl
  have hD := hD.sub (ws' := [(h0, .inr (0, [.int 0, .int 0, .int 0, .int 0, .ref q_1, .ref q_3, .ref q_5, .ref q_7, .ref q_9, .ref q_11, .ref q_13, .ref q_15, .null, .null, .null, .null, .null, .null, .null])), (q_1, .inl (cA_2, 301, .inl (fun _ => 0)))]) [0, 1] (by decide) rfl
  have hK := hK.sub (tys' := [(cA_2, .int)]) [0] rfl
  refine lv_aload_n hx hb dX0_init_96 rfl (lv_at hl 0 rfl) ?_
  refine lv_sipush (v := 300) hx hb dX0_init_97 (by decide) ?_
  refine va_newa (ty := .int) (n := 300) (N' := 300) (a0 := (300, .inl (fun _ => 0))) hx hb (ow (k := 7) rfl) rfl hK hP hD hS hA (fun _ => rfl) (by decide) (by decide) (by decide) (Nat.le_of_ble_eq_true rfl) (Nat.le_of_ble_eq_true rfl) dX0_init_100 (fun q_17 cA_18 H hK hP hD hS => ?_)
  have hP : va_P (dC, dI) vwP [(h0, .inr (0, [.int 0, .int 0, .int 0, .int 0, .ref q_1, .ref q_3, .ref q_5, .ref q_7, .ref q_9, .ref q_11, .ref q_13, .ref q_15, .null, .null, .null, .null, .null, .null, .null])), (q_1, .inl (cA_2, 301, .inl (fun _ => 0))), (q_17, .inl (cA_18, 300, .inl (fun _ => 0)))] H := hP
  have hD : va_D A [(h0, .inr (0, [.int 0, .int 0, .int 0, .int 0, .ref q_1, .ref q_3, .ref q_5, .ref q_7, .ref q_9, .ref q_11, .ref q_13, .ref q_15, .null, .null, .null, .null, .null, .null, .null])), (q_1, .inl (cA_2, 301, .inl (fun _ => 0))), (q_17, .inl (cA_18, 300, .inl (fun _ => 0)))] := hD
  have hK : va_K (dC, dI) vwP [(cA_2, .int), (cA_18, .int)] s := hK
  refine W.widen (k := 9) (n := 9501) (Nat.le_of_ble_eq_true rfl) (Nat.le_of_ble_eq_true rfl) ?_
  refine va_putF (D := (dC, dI)) (ci := 0) (v := .ref q_17) (ty := .array .int) (C := RX0) (T := TX0) (N := 19) hx hb hts mem_X0_init_0 tyX0 tyX0_ok nmX0 hown hK hP hD hS 0 rfl rfl 12 (by decide) (ow (k := 17) rfl) (fun _ h9 => h9) rfl hin rfl (by decide +kernel) rfl rfl (Nat.le_of_ble_eq_true rfl) dX0_init_102 (fun H locs hP hD hS => ?_)
  have hP : va_P (dC, dI) vwP [(h0, .inr (0, [.int 0, .int 0, .int 0, .int 0, .ref q_1, .ref q_3, .ref q_5, .ref q_7, .ref q_9, .ref q_11, .ref q_13, .ref q_15, .ref q_17, .null, .null, .null, .null, .null, .null])), (q_1, .inl (cA_2, 301, .inl (fun _ => 0))), (q_17, .inl (cA_18, 300, .inl (fun _ => 0)))] H := hP
  have hD : va_D A [(h0, .inr (0, [.int 0, .int 0, .int 0, .int 0, .ref q_1, .ref q_3, .ref q_5, .ref q_7, .ref q_9, .ref q_11, .ref q_13, .ref q_15, .ref q_17, .null, .null, .null, .null, .null, .null])), (q_1, .inl (cA_2, 301, .inl (fun _ => 0))), (q_17, .inl (cA_18, 300, .inl (fun _ => 0)))] := hD
  have hP := hP.sub (ws' := [(h0, .inr (0, [.int 0, .int 0, .int 0, .int 0, .ref q_1, .ref q_3, .ref q_5, .ref q_7, .ref q_9, .ref q_11, .ref q_13, .ref q_15, .ref q_17, .null, .null, .null, .null, .null, .null])), (q_1, .inl (cA_2, 301, .inl (fun _ => 0)))]) [0, 1] rfl
  have hD := hD.sub (ws' := [(h0, .inr (0, [.int 0, .int 0, .int 0, .int 0, .ref q_1, .ref q_3, .ref q_5, .ref q_7, .ref q_9, .ref q_11, .ref q_13, .ref q_15, .ref q_17, .null, .null, .null, .null, .null, .null])), (q_1, .inl (cA_2, 301, .inl (fun _ => 0)))]) [0, 1] (by decide) rfl
  have hK := hK.sub (tys' := [(cA_2, .int)]) [0] rfl
  refine lv_aload_n hx hb dX0_init_105 rfl (lv_at hl 0 rfl) ?_
  refine lv_sipush (v := 301) hx hb dX0_init_106 (by decide) ?_
  refine va_newa (ty := .int) (n := 301) (N' := 301) (a0 := (301, .inl (fun _ => 0))) hx hb (ow (k := 7) rfl) rfl hK hP hD hS hA (fun _ => rfl) (by decide) (by decide) (by decide) (Nat.le_of_ble_eq_true rfl) (Nat.le_of_ble_eq_true rfl) dX0_init_109 (fun q_19 cA_20 H hK hP hD hS => ?_)
  have hP : va_P (dC, dI) vwP [(h0, .inr (0, [.int 0, .int 0, .int 0, .int 0, .ref q_1, .ref q_3, .ref q_5, .ref q_7, .ref q_9, .ref q_11, .ref q_13, .ref q_15, .ref q_17, .null, .null, .null, .null, .null, .null])), (q_1, .inl (cA_2, 301, .inl (fun _ => 0))), (q_19, .inl (cA_20, 301, .inl (fun _ => 0)))] H := hP
  have hD : va_D A [(h0, .inr (0, [.int 0, .int 0, .int 0, .int 0, .ref q_1, .ref q_3, .ref q_5, .ref q_7, .ref q_9, .ref q_11, .ref q_13, .ref q_15, .ref q_17, .null, .null, .null, .null, .null, .null])), (q_1, .inl (cA_2, 301, .inl (fun _ => 0))), (q_19, .inl (cA_20, 301, .inl (fun _ => 0)))] := hD
  have hK : va_K (dC, dI) vwP [(cA_2, .int), (cA_20, .int)] s := hK
  refine W.widen (k := 10) (n := 9802) (Nat.le_of_ble_eq_true rfl) (Nat.le_of_ble_eq_true rfl) ?_
  refine va_putF (D := (dC, dI)) (ci := 0) (v := .ref q_19) (ty := .array .int) (C := RX0) (T := TX0) (N := 19) hx hb hts mem_X0_init_0 tyX0 tyX0_ok nmX0 hown hK hP hD hS 0 rfl rfl 13 (by decide) (ow (k := 18) rfl) (fun _ h9 => h9) rfl hin rfl (by decide +kernel) rfl rfl (Nat.le_of_ble_eq_true rfl) dX0_init_111 (fun H locs hP hD hS => ?_)
  have hP : va_P (dC, dI) vwP [(h0, .inr (0, [.int 0, .int 0, .int 0, .int 0, .ref q_1, .ref q_3, .ref q_5, .ref q_7, .ref q_9, .ref q_11, .ref q_13, .ref q_15, .ref q_17, .ref q_19, .null, .null, .null, .null, .null])), (q_1, .inl (cA_2, 301, .inl (fun _ => 0))), (q_19, .inl (cA_20, 301, .inl (fun _ => 0)))] H := hP
  have hD : va_D A [(h0, .inr (0, [.int 0, .int 0, .int 0, .int 0, .ref q_1, .ref q_3, .ref q_5, .ref q_7, .ref q_9, .ref q_11, .ref q_13, .ref q_15, .ref q_17, .ref q_19, .null, .null, .null, .null, .null])), (q_1, .inl (cA_2, 301, .inl (fun _ => 0))), (q_19, .inl (cA_20, 301, .inl (fun _ => 0)))] := hD
  have hP := hP.sub (ws' := [(h0, .inr (0, [.int 0, .int 0, .int 0, .int 0, .ref q_1, .ref q_3, .ref q_5, .ref q_7, .ref q_9, .ref q_11, .ref q_13, .ref q_15, .ref q_17, .ref q_19, .null, .null, .null, .null, .null])), (q_1, .inl (cA_2, 301, .inl (fun _ => 0)))]) [0, 1] rfl
  have hD := hD.sub (ws' := [(h0, .inr (0, [.int 0, .int 0, .int 0, .int 0, .ref q_1, .ref q_3, .ref q_5, .ref q_7, .ref q_9, .ref q_11, .ref q_13, .ref q_15, .ref q_17, .ref q_19, .null, .null, .null, .null, .null])), (q_1, .inl (cA_2, 301, .inl (fun _ => 0)))]) [0, 1] (by decide) rfl
  have hK := hK.sub (tys' := [(cA_2, .int)]) [0] rfl
  refine lv_aload_n hx hb dX0_init_114 rfl (lv_at hl 0 rfl) ?_
  refine lv_sipush (v := 600) hx hb dX0_init_115 (by decide) ?_
  refine va_newa (ty := .int) (n := 600) (N' := 600) (a0 := (600, .inl (fun _ => 0))) hx hb (ow (k := 7) rfl) rfl hK hP hD hS hA (fun _ => rfl) (by decide) (by decide) (by decide) (Nat.le_of_ble_eq_true rfl) (Nat.le_of_ble_eq_true rfl) dX0_init_118 (fun q_21 cA_22 H hK hP hD hS => ?_)
  have hP : va_P (dC, dI) vwP [(h0, .inr (0, [.int 0, .int 0, .int 0, .int 0, .ref q_1, .ref q_3, .ref q_5, .ref q_7, .ref q_9, .ref q_11, .ref q_13, .ref q_15, .ref q_17, .ref q_19, .null, .null, .null, .null, .null])), (q_1, .inl (cA_2, 301, .inl (fun _ => 0))), (q_21, .inl (cA_22, 600, .inl (fun _ => 0)))] H := hP
  have hD : va_D A [(h0, .inr (0, [.int 0, .int 0, .int 0, .int 0, .ref q_1, .ref q_3, .ref q_5, .ref q_7, .ref q_9, .ref q_11, .ref q_13, .ref q_15, .ref q_17, .ref q_19, .null, .null, .null, .null, .null])), (q_1, .inl (cA_2, 301, .inl (fun _ => 0))), (q_21, .inl (cA_22, 600, .inl (fun _ => 0)))] := hD
  have hK : va_K (dC, dI) vwP [(cA_2, .int), (cA_22, .int)] s := hK
  refine W.widen (k := 11) (n := 10402) (Nat.le_of_ble_eq_true rfl) (Nat.le_of_ble_eq_true rfl) ?_
  refine va_putF (D := (dC, dI)) (ci := 0) (v := .ref q_21) (ty := .array .int) (C := RX0) (T := TX0) (N := 19) hx hb hts mem_X0_init_0 tyX0 tyX0_ok nmX0 hown hK hP hD hS 0 rfl rfl 14 (by decide) (ow (k := 19) rfl) (fun _ h9 => h9) rfl hin rfl (by decide +kernel) rfl rfl (Nat.le_of_ble_eq_true rfl) dX0_init_120 (fun H locs hP hD hS => ?_)
  have hP : va_P (dC, dI) vwP [(h0, .inr (0, [.int 0, .int 0, .int 0, .int 0, .ref q_1, .ref q_3, .ref q_5, .ref q_7, .ref q_9, .ref q_11, .ref q_13, .ref q_15, .ref q_17, .ref q_19, .ref q_21, .null, .null, .null, .null])), (q_1, .inl (cA_2, 301, .inl (fun _ => 0))), (q_21, .inl (cA_22, 600, .inl (fun _ => 0)))] H := hP
  have hD : va_D A [(h0, .inr (0, [.int 0, .int 0, .int 0, .int 0, .ref q_1, .ref q_3, .ref q_5, .ref q_7, .ref q_9, .ref q_11, .ref q_13, .ref q_15, .ref q_17, .ref q_19, .ref q_21, .null, .null, .null, .null])), (q_1, .inl (cA_2, 301, .inl (fun _ => 0))), (q_21, .inl (cA_22, 600, .inl (fun _ => 0)))] := hD
  have hP := hP.sub (ws' := [(h0, .inr (0, [.int 0, .int 0, .int 0, .int 0, .ref q_1, .ref q_3, .ref q_5, .ref q_7, .ref q_9, .ref q_11, .ref q_13, .ref q_15, .ref q_17, .ref q_19, .ref q_21, .null, .null, .null, .null])), (q_1, .inl (cA_2, 301, .inl (fun _ => 0)))]) [0, 1] rfl
  have hD := hD.sub (ws' := [(h0, .inr (0, [.int 0, .int 0, .int 0, .int 0, .ref q_1, .ref q_3, .ref q_5, .ref q_7, .ref q_9, .ref q_11, .ref q_13, .ref q_15, .ref q_17, .ref q_19, .ref q_21, .null, .null, .null, .null])), (q_1, .inl (cA_2, 301, .inl (fun _ => 0)))]) [0, 1] (by decide) rfl
  have hK := hK.sub (tys' := [(cA_2, .int)]) [0] rfl
  refine lv_aload_n hx hb dX0_init_123 rfl (lv_at hl 0 rfl) ?_
  refine lv_sipush (v := 301) hx hb dX0_init_124 (by decide) ?_
  refine va_newa (ty := .int) (n := 301) (N' := 301) (a0 := (301, .inl (fun _ => 0))) hx hb (ow (k := 7) rfl) rfl hK hP hD hS hA (fun _ => rfl) (by decide) (by decide) (by decide) (Nat.le_of_ble_eq_true rfl) (Nat.le_of_ble_eq_true rfl) dX0_init_127 (fun q_23 cA_24 H hK hP hD hS => ?_)
  have hP : va_P (dC, dI) vwP [(h0, .inr (0, [.int 0, .int 0, .int 0, .int 0, .ref q_1, .ref q_3, .ref q_5, .ref q_7, .ref q_9, .ref q_11, .ref q_13, .ref q_15, .ref q_17, .ref q_19, .ref q_21, .null, .null, .null, .null])), (q_1, .inl (cA_2, 301, .inl (fun _ => 0))), (q_23, .inl (cA_24, 301, .inl (fun _ => 0)))] H := hP
  have hD : va_D A [(h0, .inr (0, [.int 0, .int 0, .int 0, .int 0, .ref q_1, .ref q_3, .ref q_5, .ref q_7, .ref q_9, .ref q_11, .ref q_13, .ref q_15, .ref q_17, .ref q_19, .ref q_21, .null, .null, .null, .null])), (q_1, .inl (cA_2, 301, .inl (fun _ => 0))), (q_23, .inl (cA_24, 301, .inl (fun _ => 0)))] := hD
  have hK : va_K (dC, dI) vwP [(cA_2, .int), (cA_24, .int)] s := hK
  refine W.widen (k := 12) (n := 10703) (Nat.le_of_ble_eq_true rfl) (Nat.le_of_ble_eq_true rfl) ?_
  refine va_putF (D := (dC, dI)) (ci := 0) (v := .ref q_23) (ty := .array .int) (C := RX0) (T := TX0) (N := 19) hx hb hts mem_X0_init_0 tyX0 tyX0_ok nmX0 hown hK hP hD hS 0 rfl rfl 15 (by decide) (ow (k := 20) rfl) (fun _ h9 => h9) rfl hin rfl (by decide +kernel) rfl rfl (Nat.le_of_ble_eq_true rfl) dX0_init_129 (fun H locs hP hD hS => ?_)
  have hP : va_P (dC, dI) vwP [(h0, .inr (0, [.int 0, .int 0, .int 0, .int 0, .ref q_1, .ref q_3, .ref q_5, .ref q_7, .ref q_9, .ref q_11, .ref q_13, .ref q_15, .ref q_17, .ref q_19, .ref q_21, .ref q_23, .null, .null, .null])), (q_1, .inl (cA_2, 301, .inl (fun _ => 0))), (q_23, .inl (cA_24, 301, .inl (fun _ => 0)))] H := hP
  have hD : va_D A [(h0, .inr (0, [.int 0, .int 0, .int 0, .int 0, .ref q_1, .ref q_3, .ref q_5, .ref q_7, .ref q_9, .ref q_11, .ref q_13, .ref q_15, .ref q_17, .ref q_19, .ref q_21, .ref q_23, .null, .null, .null])), (q_1, .inl (cA_2, 301, .inl (fun _ => 0))), (q_23, .inl (cA_24, 301, .inl (fun _ => 0)))] := hD
  refine lv_aload_n hx hb dX0_init_132 rfl (lv_at hl 0 rfl) ?_
  refine lv_sipush (v := 1000) hx hb dX0_init_133 (by decide) ?_
  refine va_newa (ty := .int) (n := 1000) (N' := 1000) (a0 := (1000, .inl (fun _ => 0))) hx hb (ow (k := 7) rfl) rfl hK hP hD hS hA (fun _ => rfl) (by decide) (by decide) (by decide) (Nat.le_of_ble_eq_true rfl) (Nat.le_of_ble_eq_true rfl) dX0_init_136 (fun q_25 cA_26 H hK hP hD hS => ?_)
  have hP : va_P (dC, dI) vwP [(h0, .inr (0, [.int 0, .int 0, .int 0, .int 0, .ref q_1, .ref q_3, .ref q_5, .ref q_7, .ref q_9, .ref q_11, .ref q_13, .ref q_15, .ref q_17, .ref q_19, .ref q_21, .ref q_23, .null, .null, .null])), (q_1, .inl (cA_2, 301, .inl (fun _ => 0))), (q_23, .inl (cA_24, 301, .inl (fun _ => 0))), (q_25, .inl (cA_26, 1000, .inl (fun _ => 0)))] H := hP
  have hD : va_D A [(h0, .inr (0, [.int 0, .int 0, .int 0, .int 0, .ref q_1, .ref q_3, .ref q_5, .ref q_7, .ref q_9, .ref q_11, .ref q_13, .ref q_15, .ref q_17, .ref q_19, .ref q_21, .ref q_23, .null, .null, .null])), (q_1, .inl (cA_2, 301, .inl (fun _ => 0))), (q_23, .inl (cA_24, 301, .inl (fun _ => 0))), (q_25, .inl (cA_26, 1000, .inl (fun _ => 0)))] := hD
  have hK : va_K (dC, dI) vwP [(cA_2, .int), (cA_24, .int), (cA_26, .int)] s := hK
  refine W.widen (k := 13) (n := 11703) (Nat.le_of_ble_eq_true rfl) (Nat.le_of_ble_eq_true rfl) ?_
  refine va_putF (D := (dC, dI)) (ci := 0) (v := .ref q_25) (ty := .array .int) (C := RX0) (T := TX0) (N := 19) hx hb hts mem_X0_init_0 tyX0 tyX0_ok nmX0 hown hK hP hD hS 0 rfl rfl 16 (by decide) (ow (k := 21) rfl) (fun _ h9 => h9) rfl hin rfl (by decide +kernel) rfl rfl (Nat.le_of_ble_eq_true rfl) dX0_init_138 (fun H locs hP hD hS => ?_)
  have hP : va_P (dC, dI) vwP [(h0, .inr (0, [.int 0, .int 0, .int 0, .int 0, .ref q_1, .ref q_3, .ref q_5, .ref q_7, .ref q_9, .ref q_11, .ref q_13, .ref q_15, .ref q_17, .ref q_19, .ref q_21, .ref q_23, .ref q_25, .null, .null])), (q_1, .inl (cA_2, 301, .inl (fun _ => 0))), (q_23, .inl (cA_24, 301, .inl (fun _ => 0))), (q_25, .inl (cA_26, 1000, .inl (fun _ => 0)))] H := hP
  have hD : va_D A [(h0, .inr (0, [.int 0, .int 0, .int 0, .int 0, .ref q_1, .ref q_3, .ref q_5, .ref q_7, .ref q_9, .ref q_11, .ref q_13, .ref q_15, .ref q_17, .ref q_19, .ref q_21, .ref q_23, .ref q_25, .null, .null])), (q_1, .inl (cA_2, 301, .inl (fun _ => 0))), (q_23, .inl (cA_24, 301, .inl (fun _ => 0))), (q_25, .inl (cA_26, 1000, .inl (fun _ => 0)))] := hD
  have hP := hP.sub (ws' := [(h0, .inr (0, [.int 0, .int 0, .int 0, .int 0, .ref q_1, .ref q_3, .ref q_5, .ref q_7, .ref q_9, .ref q_11, .ref q_13, .ref q_15, .ref q_17, .ref q_19, .ref q_21, .ref q_23, .ref q_25, .null, .null])), (q_1, .inl (cA_2, 301, .inl (fun _ => 0))), (q_23, .inl (cA_24, 301, .inl (fun _ => 0)))]) [0, 1, 2] rfl
  have hD := hD.sub (ws' := [(h0, .inr (0, [.int 0, .int 0, .int 0, .int 0, .ref q_1, .ref q_3, .ref q_5, .ref q_7, .ref q_9, .ref q_11, .ref q_13, .ref q_15, .ref q_17, .ref q_19, .ref q_21, .ref q_23, .ref q_25, .null, .null])), (q_1, .inl (cA_2, 301, .inl (fun _ => 0))), (q_23, .inl (cA_24, 301, .inl (fun _ => 0)))]) [0, 1, 2] (by decide) rfl
  have hK := hK.sub (tys' := [(cA_2, .int), (cA_24, .int)]) [0, 1] rfl
  refine lv_aload_n hx hb dX0_init_141 rfl (lv_at hl 0 rfl) ?_
  refine lv_sipush (v := 1000) hx hb dX0_init_142 (by decide) ?_
  refine va_newa (ty := .int) (n := 1000) (N' := 1000) (a0 := (1000, .inl (fun _ => 0))) hx hb (ow (k := 7) rfl) rfl hK hP hD hS hA (fun _ => rfl) (by decide) (by decide) (by decide) (Nat.le_of_ble_eq_true rfl) (Nat.le_of_ble_eq_true rfl) dX0_init_145 (fun q_27 cA_28 H hK hP hD hS => ?_)
  have hP : va_P (dC, dI) vwP [(h0, .inr (0, [.int 0, .int 0, .int 0, .int 0, .ref q_1, .ref q_3, .ref q_5, .ref q_7, .ref q_9, .ref q_11, .ref q_13, .ref q_15, .ref q_17, .ref q_19, .ref q_21, .ref q_23, .ref q_25, .null, .null])), (q_1, .inl (cA_2, 301, .inl (fun _ => 0))), (q_23, .inl (cA_24, 301, .inl (fun _ => 0))), (q_27, .inl (cA_28, 1000, .inl (fun _ => 0)))] H := hP
  have hD : va_D A [(h0, .inr (0, [.int 0, .int 0, .int 0, .int 0, .ref q_1, .ref q_3, .ref q_5, .ref q_7, .ref q_9, .ref q_11, .ref q_13, .ref q_15, .ref q_17, .ref q_19, .ref q_21, .ref q_23, .ref q_25, .null, .null])), (q_1, .inl (cA_2, 301, .inl (fun _ => 0))), (q_23, .inl (cA_24, 301, .inl (fun _ => 0))), (q_27, .inl (cA_28, 1000, .inl (fun _ => 0)))] := hD
  have hK : va_K (dC, dI) vwP [(cA_2, .int), (cA_24, .int), (cA_28, .int)] s := hK
  refine W.widen (k := 14) (n := 12703) (Nat.le_of_ble_eq_true rfl) (Nat.le_of_ble_eq_true rfl) ?_
  refine va_putF (D := (dC, dI)) (ci := 0) (v := .ref q_27) (ty := .array .int) (C := RX0) (T := TX0) (N := 19) hx hb hts mem_X0_init_0 tyX0 tyX0_ok nmX0 hown hK hP hD hS 0 rfl rfl 17 (by decide) (ow (k := 22) rfl) (fun _ h9 => h9) rfl hin rfl (by decide +kernel) rfl rfl (Nat.le_of_ble_eq_true rfl) dX0_init_147 (fun H locs hP hD hS => ?_)
  have hP : va_P (dC, dI) vwP [(h0, .inr (0, [.int 0, .int 0, .int 0, .int 0, .ref q_1, .ref q_3, .ref q_5, .ref q_7, .ref q_9, .ref q_11, .ref q_13, .ref q_15, .ref q_17, .ref q_19, .ref q_21, .ref q_23, .ref q_25, .ref q_27, .null])), (q_1, .inl (cA_2, 301, .inl (fun _ => 0))), (q_23, .inl (cA_24, 301, .inl (fun _ => 0))), (q_27, .inl (cA_28, 1000, .inl (fun _ => 0)))] H := hP
  have hD : va_D A [(h0, .inr (0, [.int 0, .int 0, .int 0, .int 0, .ref q_1, .ref q_3, .ref q_5, .ref q_7, .ref q_9, .ref q_11, .ref q_13, .ref q_15, .ref q_17, .ref q_19, .ref q_21, .ref q_23, .ref q_25, .ref q_27, .null])), (q_1, .inl (cA_2, 301, .inl (fun _ => 0))), (q_23, .inl (cA_24, 301, .inl (fun _ => 0))), (q_27, .inl (cA_28, 1000, .inl (fun _ => 0)))] := hD
  have hP := hP.sub (ws' := [(h0, .inr (0, [.int 0, .int 0, .int 0, .int 0, .ref q_1, .ref q_3, .ref q_5, .ref q_7, .ref q_9, .ref q_11, .ref q_13, .ref q_15, .ref q_17, .ref q_19, .ref q_21, .ref q_23, .ref q_25, .ref q_27, .null])), (q_1, .inl (cA_2, 301, .inl (fun _ => 0))), (q_23, .inl (cA_24, 301, .inl (fun _ => 0)))]) [0, 1, 2] rfl
  have hD := hD.sub (ws' := [(h0, .inr (0, [.int 0, .int 0, .int 0, .int 0, .ref q_1, .ref q_3, .ref q_5, .ref q_7, .ref q_9, .ref q_11, .ref q_13, .ref q_15, .ref q_17, .ref q_19, .ref q_21, .ref q_23, .ref q_25, .ref q_27, .null])), (q_1, .inl (cA_2, 301, .inl (fun _ => 0))), (q_23, .inl (cA_24, 301, .inl (fun _ => 0)))]) [0, 1, 2] (by decide) rfl
  have hK := hK.sub (tys' := [(cA_2, .int), (cA_24, .int)]) [0, 1] rfl
  refine lv_aload_n hx hb dX0_init_150 rfl (lv_at hl 0 rfl) ?_
  refine lv_sipush (v := 4096) hx hb dX0_init_151 (by decide) ?_
  refine va_newa (ty := .long) (n := 4096) (N' := 4096) (a0 := (4096, .inr (.inl (fun _ => 0)))) hx hb (ow (k := 11) rfl) rfl hK hP hD hS hA (fun _ => rfl) (by decide) (by decide) (by decide) (Nat.le_of_ble_eq_true rfl) (Nat.le_of_ble_eq_true rfl) dX0_init_154 (fun q_29 cA_30 H hK hP hD hS => ?_)
  have hP : va_P (dC, dI) vwP [(h0, .inr (0, [.int 0, .int 0, .int 0, .int 0, .ref q_1, .ref q_3, .ref q_5, .ref q_7, .ref q_9, .ref q_11, .ref q_13, .ref q_15, .ref q_17, .ref q_19, .ref q_21, .ref q_23, .ref q_25, .ref q_27, .null])), (q_1, .inl (cA_2, 301, .inl (fun _ => 0))), (q_23, .inl (cA_24, 301, .inl (fun _ => 0))), (q_29, .inl (cA_30, 4096, .inr (.inl (fun _ => 0))))] H := hP
  have hD : va_D A [(h0, .inr (0, [.int 0, .int 0, .int 0, .int 0, .ref q_1, .ref q_3, .ref q_5, .ref q_7, .ref q_9, .ref q_11, .ref q_13, .ref q_15, .ref q_17, .ref q_19, .ref q_21, .ref q_23, .ref q_25, .ref q_27, .null])), (q_1, .inl (cA_2, 301, .inl (fun _ => 0))), (q_23, .inl (cA_24, 301, .inl (fun _ => 0))), (q_29, .inl (cA_30, 4096, .inr (.inl (fun _ => 0))))] := hD
  have hK : va_K (dC, dI) vwP [(cA_2, .int), (cA_24, .int), (cA_30, .long)] s := hK
  refine W.widen (k := 15) (n := 16799) (Nat.le_of_ble_eq_true rfl) (Nat.le_of_ble_eq_true rfl) ?_
  refine va_put (D := (dC, dI)) (ci := 0) (v := .ref q_29) (ty := .array .long) (C := RX0) (T := TX0) (N := 19) hx hb hts mem_X0_init_0 tyX0 tyX0_ok nmX0 hown hK hP hD hS 0 rfl rfl 18 (by decide) (ow (k := 23) rfl) (fun _ h9 => h9) rfl (by decide +kernel) rfl rfl (Nat.le_of_ble_eq_true rfl) dX0_init_156 (fun H locs hP hD hS => ?_)
  have hP : va_P (dC, dI) vwP [(h0, .inr (0, [.int 0, .int 0, .int 0, .int 0, .ref q_1, .ref q_3, .ref q_5, .ref q_7, .ref q_9, .ref q_11, .ref q_13, .ref q_15, .ref q_17, .ref q_19, .ref q_21, .ref q_23, .ref q_25, .ref q_27, .ref q_29])), (q_1, .inl (cA_2, 301, .inl (fun _ => 0))), (q_23, .inl (cA_24, 301, .inl (fun _ => 0))), (q_29, .inl (cA_30, 4096, .inr (.inl (fun _ => 0))))] H := hP
  have hD : va_D A [(h0, .inr (0, [.int 0, .int 0, .int 0, .int 0, .ref q_1, .ref q_3, .ref q_5, .ref q_7, .ref q_9, .ref q_11, .ref q_13, .ref q_15, .ref q_17, .ref q_19, .ref q_21, .ref q_23, .ref q_25, .ref q_27, .ref q_29])), (q_1, .inl (cA_2, 301, .inl (fun _ => 0))), (q_23, .inl (cA_24, 301, .inl (fun _ => 0))), (q_29, .inl (cA_30, 4096, .inr (.inl (fun _ => 0))))] := hD
  have hP := hP.sub (ws' := [(h0, .inr (0, [.int 0, .int 0, .int 0, .int 0, .ref q_1, .ref q_3, .ref q_5, .ref q_7, .ref q_9, .ref q_11, .ref q_13, .ref q_15, .ref q_17, .ref q_19, .ref q_21, .ref q_23, .ref q_25, .ref q_27, .ref q_29])), (q_1, .inl (cA_2, 301, .inl (fun _ => 0))), (q_23, .inl (cA_24, 301, .inl (fun _ => 0)))]) [0, 1, 2] rfl
  have hD := hD.sub (ws' := [(h0, .inr (0, [.int 0, .int 0, .int 0, .int 0, .ref q_1, .ref q_3, .ref q_5, .ref q_7, .ref q_9, .ref q_11, .ref q_13, .ref q_15, .ref q_17, .ref q_19, .ref q_21, .ref q_23, .ref q_25, .ref q_27, .ref q_29])), (q_1, .inl (cA_2, 301, .inl (fun _ => 0))), (q_23, .inl (cA_24, 301, .inl (fun _ => 0)))]) [0, 1, 2] (by decide) rfl
  have hK := hK.sub (tys' := [(cA_2, .int), (cA_24, .int)]) [0, 1] rfl
  refine W.widen (k := 15) (n := 16799) (Nat.le_of_ble_eq_true rfl) (Nat.le_of_ble_eq_true rfl) ?_
  exact W.vret hx hb hr (fun t ht hW => ⟨⟨(), rfl, trivial, q_1, q_3, q_5, q_7, q_9, q_11, q_13, q_15, q_17, q_19, q_21, q_23, q_25, q_27, q_29, cA_2, cA_24, by rw [ht]; exact hP, va_K.moved hW.alike hK, hD⟩, hS.F ht⟩) hS.2.2 dX0_init_159
theorem dX1_init_0 : decode cX1_init 0 = .ok (.aload_n 0, 1) := by decide +kernel
theorem dX1_init_1 : decode cX1_init 1 = .ok (.invokespecial 3, 3) := by decide +kernel
theorem dX1_init_4 : decode cX1_init 4 = .ok (.aload_n 0, 1) := by decide +kernel
theorem dX1_init_5 : decode cX1_init 5 = .ok (.sipush 300, 3) := by decide +kernel
theorem dX1_init_8 : decode cX1_init 8 = .ok (.newarray .boolean, 2) := by decide +kernel
theorem dX1_init_10 : decode cX1_init 10 = .ok (.putfield 9, 3) := by decide +kernel
theorem dX1_init_13 : decode cX1_init 13 = .ok (.aload_n 0, 1) := by decide +kernel
theorem dX1_init_14 : decode cX1_init 14 = .ok (.sipush 300, 3) := by decide +kernel
theorem dX1_init_17 : decode cX1_init 17 = .ok (.newarray .boolean, 2) := by decide +kernel
theorem dX1_init_19 : decode cX1_init 19 = .ok (.putfield 15, 3) := by decide +kernel
theorem dX1_init_22 : decode cX1_init 22 = .ok (.aload_n 0, 1) := by decide +kernel
theorem dX1_init_23 : decode cX1_init 23 = .ok (.sipush 300, 3) := by decide +kernel
theorem dX1_init_26 : decode cX1_init 26 = .ok (.newarray .boolean, 2) := by decide +kernel
theorem dX1_init_28 : decode cX1_init 28 = .ok (.putfield 18, 3) := by decide +kernel
theorem dX1_init_31 : decode cX1_init 31 = .ok (.aload_n 0, 1) := by decide +kernel
theorem dX1_init_32 : decode cX1_init 32 = .ok (.sipush 1024, 3) := by decide +kernel
theorem dX1_init_35 : decode cX1_init 35 = .ok (.newarray .int, 2) := by decide +kernel
theorem dX1_init_37 : decode cX1_init 37 = .ok (.putfield 21, 3) := by decide +kernel
theorem dX1_init_40 : decode cX1_init 40 = .ok (.aload_n 0, 1) := by decide +kernel
theorem dX1_init_41 : decode cX1_init 41 = .ok (.sipush 1024, 3) := by decide +kernel
theorem dX1_init_44 : decode cX1_init 44 = .ok (.newarray .long, 2) := by decide +kernel
theorem dX1_init_46 : decode cX1_init 46 = .ok (.putfield 25, 3) := by decide +kernel
theorem dX1_init_49 : decode cX1_init 49 = .ok (.aload_n 0, 1) := by decide +kernel
theorem dX1_init_50 : decode cX1_init 50 = .ok (.iconst 0, 1) := by decide +kernel
theorem dX1_init_51 : decode cX1_init 51 = .ok (.putfield 29, 3) := by decide +kernel
theorem dX1_init_54 : decode cX1_init 54 = .ok (.return_, 1) := by decide +kernel
def o_X1_init : List Cond := [.methodLink RX1 3 objectInit, .instanceMethod objectInit, .code objectInit ⟨#[0xb1]⟩ 1 none, .arrayClass .boolean, .fieldLink RX1 9 "SsaForge$Constants" "gone" "[Z", .fieldLink RX1 15 "SsaForge$Constants" "firstOpen" "[Z", .fieldLink RX1 18 "SsaForge$Constants" "secondOpen" "[Z", .arrayClass .int, .fieldLink RX1 21 "SsaForge$Constants" "kinds" "[I", .arrayClass .long, .fieldLink RX1 25 "SsaForge$Constants" "instead" "[J", .fieldLink RX1 29 "SsaForge$Constants" "changed" "Z"]
def v_X1_init : List Cond := .code yX1_init cX1_init 1 none :: (o_X1_init ++ (wsX10 ++ []))
theorem mow_X1_init : ∀ w ∈ o_X1_init, w ∈ v_X1_init := fun _ h => List.mem_cons_of_mem _ (List.mem_append_left _ h)
theorem mem_X1_init_0 : ∀ w ∈ wsX10, w ∈ v_X1_init := fun _ h => List.mem_cons_of_mem _ (List.mem_append_right _ (List.mem_append_left _ h))
set_option maxRecDepth 20000 in
theorem gw_X1_init : v_X1_init.all goodWord = true := by decide +kernel
set_option maxHeartbeats 4000000 in
set_option maxRecDepth 100000 in
theorem c_X1_init (l : Launch) (dC : Nat → ClassId) (dI : Nat → Nat → Nat) (h0 : Nat) (sz : Nat) : Met l yX1_init v_X1_init ({ frames := 1, cells := 5, slots := 2948, locals := 12 }) (va_Pc [.ref h0] (fun U => U.heap.size = sz ∧ va_P (dC, dI) vwP [(h0, .inr (1, [.null, .null, .null, .null, .null, .int 0]))] U.heap ∧ va_K (dC, dI) vwP [] U ∧ va_D (fun _ => True) [(h0, .inr (1, [.null, .null, .null, .null, .null, .int 0]))])) (va_Qv (fun _ : Unit => True) (fun (_ : Unit) (t : State) => ∃ (q_1 : Nat) (q_3 : Nat) (q_5 : Nat) (q_7 : Nat) (q_9 : Nat), va_P (dC, dI) vwP [(h0, .inr (1, [.ref q_1, .ref q_3, .ref q_5, .ref q_7, .ref q_9, .int 0]))] t.heap ∧ va_K (dC, dI) vwP [] t ∧ va_D (va_A [(h0, .inr (1, [.null, .null, .null, .null, .null, .int 0]))] sz) [(h0, .inr (1, [.ref q_1, .ref q_3, .ref q_5, .ref q_7, .ref q_9, .int 0]))]) (va_A [(h0, .inr (1, [.null, .null, .null, .null, .null, .int 0]))] sz)) 5 2948 (va_A [(h0, .inr (1, [.null, .null, .null, .null, .null, .int 0]))] sz) := by
  refine Met.ofW (cc := cX1_init) (maxL := 1) (ret := none) (by decide) rfl ?_
  intro p e s m args below meth c s₁ B hml hv
  obtain ⟨rfl, hsz, hP, hK, hD0⟩ := hv
  have hx := B.exec
  have hb := B.bytes
  have hr := B.returns
  have hts := atoms_spec (ws := v_X1_init) B.pre
  have hown : s.vm.findClass RX1 = some m.cls := findClass_of_methodNamed B.named
  have hlocks := B.notSynchronized
  have ow : ∀ {k : Nat} {w : Cond}, o_X1_init[k]? = some w → w.before ([.ref h0] : List Value).toArray s = true := fun h => hts _ (mow_X1_init _ (List.mem_of_getElem? h))
  have hin : meth.name = "<init>" := (name_of_methodNamed B.named B.method).1
  subst hsz
  have hD := hD0.self (sz := s.heap.size)
  generalize hAe : va_A [(h0, .inr (1, [.null, .null, .null, .null, .null, .int 0]))] s.heap.size = A at hD ⊢
  have hA : ∀ q : Nat, s.heap.size ≤ q → A q := fun q h => by rw [← hAe]; exact Or.inr h
  have hS : va_S A s.heap s.heap [] := va_S.rf
  have hP : va_P (dC, dI) vwP [(h0, .inr (1, [.null, .null, .null, .null, .null, .int 0]))] s.heap := hP
  have hl := lv_entry ([.ref h0]) (n := 1) (Nat.le_of_ble_eq_true rfl)
  rw [lg_entry_eq]
  generalize (lg_sl ([.ref h0]) ++ List.replicate (1 - (lg_sl ([.ref h0])).length) Slot.unset).toArray = ls at hl ⊢
  have hl : lv_has ls 1 [(0, .ref h0)] := hl
  obtain ⟨H, hH⟩ : ∃ H, H = s.heap := ⟨_, rfl⟩
  rw [← hH] at hP
  have hS : va_S A s.heap H [] := by rw [hH]; exact hS
  rw [← hH]
  refine lv_aload_n hx hb dX1_init_0 rfl (lv_at hl 0 rfl) ?_
  refine W.objInit hx hb hown (ow (k := 0) rfl) (ow (k := 1) rfl) (ow (k := 2) rfl) rfl (by rw [hml]; exact hl.1) rfl dX1_init_1 (Nat.le_of_ble_eq_true rfl) (Nat.le_of_ble_eq_true rfl) ?_
  refine W.eq (g2 := F0 m 4 ls []) rfl ?_
  refine lv_aload_n hx hb dX1_init_4 rfl (lv_at hl 0 rfl) ?_
  refine lv_sipush (v := 300) hx hb dX1_init_5 (by decide) ?_
  refine va_newa (ty := .boolean) (n := 300) (N' := 300) (a0 := (300, .inl (fun _ => 0))) hx hb (ow (k := 3) rfl) rfl hK hP hD hS hA (fun _ => rfl) (by decide) (by decide) (by decide) (Nat.le_of_ble_eq_true rfl) (Nat.le_of_ble_eq_true rfl) dX1_init_8 (fun q_1 cA_2 H hK hP hD hS => ?_)
  have hP : va_P (dC, dI) vwP [(h0, .inr (1, [.null, .null, .null, .null, .null, .int 0])), (q_1, .inl (cA_2, 300, .inl (fun _ => 0)))] H := hP
  have hD : va_D A [(h0, .inr (1, [.null, .null, .null, .null, .null, .int 0])), (q_1, .inl (cA_2, 300, .inl (fun _ => 0)))] := hD
  have hK : va_K (dC, dI) vwP [(cA_2, .boolean)] s := hK
  refine W.widen (k := 1) (n := 300) (Nat.le_of_ble_eq_true rfl) (Nat.le_of_ble_eq_true rfl) ?_
  refine va_putF (D := (dC, dI)) (ci := 1) (v := .ref q_1) (ty := .array .boolean) (C := RX1) (T := TX1) (N := 6) hx hb hts mem_X1_init_0 tyX1 tyX1_ok nmX1 hown hK hP hD hS 0 rfl rfl 0 (by decide) (ow (k := 4) rfl) (fun _ h9 => h9) rfl hin rfl (by decide +kernel) rfl rfl (Nat.le_of_ble_eq_true rfl) dX1_init_10 (fun H locs hP hD hS => ?_)
  have hP : va_P (dC, dI) vwP [(h0, .inr (1, [.ref q_1, .null, .null, .null, .null, .int 0])), (q_1, .inl (cA_2, 300, .inl (fun _ => 0)))] H := hP
  have hD : va_D A [(h0, .inr (1, [.ref q_1, .null, .null, .null, .null, .int 0])), (q_1, .inl (cA_2, 300, .inl (fun _ => 0)))] := hD
  have hP := hP.sub (ws' := [(h0, .inr (1, [.ref q_1, .null, .null, .null, .null, .int 0]))]) [0] rfl
  have hD := hD.sub (ws' := [(h0, .inr (1, [.ref q_1, .null, .null, .null, .null, .int 0]))]) [0] (by decide) rfl
  have hK := hK.sub (tys' := []) [] rfl
  refine lv_aload_n hx hb dX1_init_13 rfl (lv_at hl 0 rfl) ?_
  refine lv_sipush (v := 300) hx hb dX1_init_14 (by decide) ?_
  refine va_newa (ty := .boolean) (n := 300) (N' := 300) (a0 := (300, .inl (fun _ => 0))) hx hb (ow (k := 3) rfl) rfl hK hP hD hS hA (fun _ => rfl) (by decide) (by decide) (by decide) (Nat.le_of_ble_eq_true rfl) (Nat.le_of_ble_eq_true rfl) dX1_init_17 (fun q_3 cA_4 H hK hP hD hS => ?_)
  have hP : va_P (dC, dI) vwP [(h0, .inr (1, [.ref q_1, .null, .null, .null, .null, .int 0])), (q_3, .inl (cA_4, 300, .inl (fun _ => 0)))] H := hP
  have hD : va_D A [(h0, .inr (1, [.ref q_1, .null, .null, .null, .null, .int 0])), (q_3, .inl (cA_4, 300, .inl (fun _ => 0)))] := hD
  have hK : va_K (dC, dI) vwP [(cA_4, .boolean)] s := hK
  refine W.widen (k := 2) (n := 600) (Nat.le_of_ble_eq_true rfl) (Nat.le_of_ble_eq_true rfl) ?_
  refine va_putF (D := (dC, dI)) (ci := 1) (v := .ref q_3) (ty := .array .boolean) (C := RX1) (T := TX1) (N := 6) hx hb hts mem_X1_init_0 tyX1 tyX1_ok nmX1 hown hK hP hD hS 0 rfl rfl 1 (by decide) (ow (k := 5) rfl) (fun _ h9 => h9) rfl hin rfl (by decide +kernel) rfl rfl (Nat.le_of_ble_eq_true rfl) dX1_init_19 (fun H locs hP hD hS => ?_)
  have hP : va_P (dC, dI) vwP [(h0, .inr (1, [.ref q_1, .ref q_3, .null, .null, .null, .int 0])), (q_3, .inl (cA_4, 300, .inl (fun _ => 0)))] H := hP
  have hD : va_D A [(h0, .inr (1, [.ref q_1, .ref q_3, .null, .null, .null, .int 0])), (q_3, .inl (cA_4, 300, .inl (fun _ => 0)))] := hD
  have hP := hP.sub (ws' := [(h0, .inr (1, [.ref q_1, .ref q_3, .null, .null, .null, .int 0]))]) [0] rfl
  have hD := hD.sub (ws' := [(h0, .inr (1, [.ref q_1, .ref q_3, .null, .null, .null, .int 0]))]) [0] (by decide) rfl
  have hK := hK.sub (tys' := []) [] rfl
  refine lv_aload_n hx hb dX1_init_22 rfl (lv_at hl 0 rfl) ?_
  refine lv_sipush (v := 300) hx hb dX1_init_23 (by decide) ?_
  refine va_newa (ty := .boolean) (n := 300) (N' := 300) (a0 := (300, .inl (fun _ => 0))) hx hb (ow (k := 3) rfl) rfl hK hP hD hS hA (fun _ => rfl) (by decide) (by decide) (by decide) (Nat.le_of_ble_eq_true rfl) (Nat.le_of_ble_eq_true rfl) dX1_init_26 (fun q_5 cA_6 H hK hP hD hS => ?_)
  have hP : va_P (dC, dI) vwP [(h0, .inr (1, [.ref q_1, .ref q_3, .null, .null, .null, .int 0])), (q_5, .inl (cA_6, 300, .inl (fun _ => 0)))] H := hP
  have hD : va_D A [(h0, .inr (1, [.ref q_1, .ref q_3, .null, .null, .null, .int 0])), (q_5, .inl (cA_6, 300, .inl (fun _ => 0)))] := hD
  have hK : va_K (dC, dI) vwP [(cA_6, .boolean)] s := hK
  refine W.widen (k := 3) (n := 900) (Nat.le_of_ble_eq_true rfl) (Nat.le_of_ble_eq_true rfl) ?_
  refine va_putF (D := (dC, dI)) (ci := 1) (v := .ref q_5) (ty := .array .boolean) (C := RX1) (T := TX1) (N := 6) hx hb hts mem_X1_init_0 tyX1 tyX1_ok nmX1 hown hK hP hD hS 0 rfl rfl 2 (by decide) (ow (k := 6) rfl) (fun _ h9 => h9) rfl hin rfl (by decide +kernel) rfl rfl (Nat.le_of_ble_eq_true rfl) dX1_init_28 (fun H locs hP hD hS => ?_)
  have hP : va_P (dC, dI) vwP [(h0, .inr (1, [.ref q_1, .ref q_3, .ref q_5, .null, .null, .int 0])), (q_5, .inl (cA_6, 300, .inl (fun _ => 0)))] H := hP
  have hD : va_D A [(h0, .inr (1, [.ref q_1, .ref q_3, .ref q_5, .null, .null, .int 0])), (q_5, .inl (cA_6, 300, .inl (fun _ => 0)))] := hD
  have hP := hP.sub (ws' := [(h0, .inr (1, [.ref q_1, .ref q_3, .ref q_5, .null, .null, .int 0]))]) [0] rfl
  have hD := hD.sub (ws' := [(h0, .inr (1, [.ref q_1, .ref q_3, .ref q_5, .null, .null, .int 0]))]) [0] (by decide) rfl
  have hK := hK.sub (tys' := []) [] rfl
  refine lv_aload_n hx hb dX1_init_31 rfl (lv_at hl 0 rfl) ?_
  refine lv_sipush (v := 1024) hx hb dX1_init_32 (by decide) ?_
  refine va_newa (ty := .int) (n := 1024) (N' := 1024) (a0 := (1024, .inl (fun _ => 0))) hx hb (ow (k := 7) rfl) rfl hK hP hD hS hA (fun _ => rfl) (by decide) (by decide) (by decide) (Nat.le_of_ble_eq_true rfl) (Nat.le_of_ble_eq_true rfl) dX1_init_35 (fun q_7 cA_8 H hK hP hD hS => ?_)
  have hP : va_P (dC, dI) vwP [(h0, .inr (1, [.ref q_1, .ref q_3, .ref q_5, .null, .null, .int 0])), (q_7, .inl (cA_8, 1024, .inl (fun _ => 0)))] H := hP
  have hD : va_D A [(h0, .inr (1, [.ref q_1, .ref q_3, .ref q_5, .null, .null, .int 0])), (q_7, .inl (cA_8, 1024, .inl (fun _ => 0)))] := hD
  have hK : va_K (dC, dI) vwP [(cA_8, .int)] s := hK
  refine W.widen (k := 4) (n := 1924) (Nat.le_of_ble_eq_true rfl) (Nat.le_of_ble_eq_true rfl) ?_
  refine va_putF (D := (dC, dI)) (ci := 1) (v := .ref q_7) (ty := .array .int) (C := RX1) (T := TX1) (N := 6) hx hb hts mem_X1_init_0 tyX1 tyX1_ok nmX1 hown hK hP hD hS 0 rfl rfl 3 (by decide) (ow (k := 8) rfl) (fun _ h9 => h9) rfl hin rfl (by decide +kernel) rfl rfl (Nat.le_of_ble_eq_true rfl) dX1_init_37 (fun H locs hP hD hS => ?_)
  have hP : va_P (dC, dI) vwP [(h0, .inr (1, [.ref q_1, .ref q_3, .ref q_5, .ref q_7, .null, .int 0])), (q_7, .inl (cA_8, 1024, .inl (fun _ => 0)))] H := hP
  have hD : va_D A [(h0, .inr (1, [.ref q_1, .ref q_3, .ref q_5, .ref q_7, .null, .int 0])), (q_7, .inl (cA_8, 1024, .inl (fun _ => 0)))] := hD
  have hP := hP.sub (ws' := [(h0, .inr (1, [.ref q_1, .ref q_3, .ref q_5, .ref q_7, .null, .int 0]))]) [0] rfl
  have hD := hD.sub (ws' := [(h0, .inr (1, [.ref q_1, .ref q_3, .ref q_5, .ref q_7, .null, .int 0]))]) [0] (by decide) rfl
  have hK := hK.sub (tys' := []) [] rfl
  refine lv_aload_n hx hb dX1_init_40 rfl (lv_at hl 0 rfl) ?_
  refine lv_sipush (v := 1024) hx hb dX1_init_41 (by decide) ?_
  refine va_newa (ty := .long) (n := 1024) (N' := 1024) (a0 := (1024, .inr (.inl (fun _ => 0)))) hx hb (ow (k := 9) rfl) rfl hK hP hD hS hA (fun _ => rfl) (by decide) (by decide) (by decide) (Nat.le_of_ble_eq_true rfl) (Nat.le_of_ble_eq_true rfl) dX1_init_44 (fun q_9 cA_10 H hK hP hD hS => ?_)
  have hP : va_P (dC, dI) vwP [(h0, .inr (1, [.ref q_1, .ref q_3, .ref q_5, .ref q_7, .null, .int 0])), (q_9, .inl (cA_10, 1024, .inr (.inl (fun _ => 0))))] H := hP
  have hD : va_D A [(h0, .inr (1, [.ref q_1, .ref q_3, .ref q_5, .ref q_7, .null, .int 0])), (q_9, .inl (cA_10, 1024, .inr (.inl (fun _ => 0))))] := hD
  have hK : va_K (dC, dI) vwP [(cA_10, .long)] s := hK
  refine W.widen (k := 5) (n := 2948) (Nat.le_of_ble_eq_true rfl) (Nat.le_of_ble_eq_true rfl) ?_
  refine va_putF (D := (dC, dI)) (ci := 1) (v := .ref q_9) (ty := .array .long) (C := RX1) (T := TX1) (N := 6) hx hb hts mem_X1_init_0 tyX1 tyX1_ok nmX1 hown hK hP hD hS 0 rfl rfl 4 (by decide) (ow (k := 10) rfl) (fun _ h9 => h9) rfl hin rfl (by decide +kernel) rfl rfl (Nat.le_of_ble_eq_true rfl) dX1_init_46 (fun H locs hP hD hS => ?_)
  have hP : va_P (dC, dI) vwP [(h0, .inr (1, [.ref q_1, .ref q_3, .ref q_5, .ref q_7, .ref q_9, .int 0])), (q_9, .inl (cA_10, 1024, .inr (.inl (fun _ => 0))))] H := hP
  have hD : va_D A [(h0, .inr (1, [.ref q_1, .ref q_3, .ref q_5, .ref q_7, .ref q_9, .int 0])), (q_9, .inl (cA_10, 1024, .inr (.inl (fun _ => 0))))] := hD
  have hP := hP.sub (ws' := [(h0, .inr (1, [.ref q_1, .ref q_3, .ref q_5, .ref q_7, .ref q_9, .int 0]))]) [0] rfl
  have hD := hD.sub (ws' := [(h0, .inr (1, [.ref q_1, .ref q_3, .ref q_5, .ref q_7, .ref q_9, .int 0]))]) [0] (by decide) rfl
  have hK := hK.sub (tys' := []) [] rfl
  refine lv_aload_n hx hb dX1_init_49 rfl (lv_at hl 0 rfl) ?_
  refine lv_iconst (v := 0) hx hb dX1_init_50 (by decide) ?_
  refine va_put (D := (dC, dI)) (ci := 1) (v := .int 0) (ty := .boolean) (C := RX1) (T := TX1) (N := 6) hx hb hts mem_X1_init_0 tyX1 tyX1_ok nmX1 hown hK hP hD hS 0 rfl rfl 5 (by decide) (ow (k := 11) rfl) (fun _ h9 => h9) rfl (by decide +kernel) rfl rfl (Nat.le_of_ble_eq_true rfl) dX1_init_51 (fun H locs hP hD hS => ?_)
  have hP : va_P (dC, dI) vwP [(h0, .inr (1, [.ref q_1, .ref q_3, .ref q_5, .ref q_7, .ref q_9, .int 0]))] H := hP
  have hD : va_D A [(h0, .inr (1, [.ref q_1, .ref q_3, .ref q_5, .ref q_7, .ref q_9, .int 0]))] := hD
  refine W.widen (k := 5) (n := 2948) (Nat.le_of_ble_eq_true rfl) (Nat.le_of_ble_eq_true rfl) ?_
  exact W.vret hx hb hr (fun t ht hW => ⟨⟨(), rfl, trivial, q_1, q_3, q_5, q_7, q_9, by rw [ht]; exact hP, va_K.moved hW.alike hK, hD⟩, hS.F ht⟩) hS.2.2 dX1_init_54
theorem dX2_init_0 : decode cX2_init 0 = .ok (.aload_n 0, 1) := by decide +kernel
theorem dX2_init_1 : decode cX2_init 1 = .ok (.invokespecial 3, 3) := by decide +kernel
theorem dX2_init_4 : decode cX2_init 4 = .ok (.aload_n 0, 1) := by decide +kernel
theorem dX2_init_5 : decode cX2_init 5 = .ok (.iconst 0, 1) := by decide +kernel
theorem dX2_init_6 : decode cX2_init 6 = .ok (.putfield 9, 3) := by decide +kernel
theorem dX2_init_9 : decode cX2_init 9 = .ok (.aload_n 0, 1) := by decide +kernel
theorem dX2_init_10 : decode cX2_init 10 = .ok (.sipush 300, 3) := by decide +kernel
theorem dX2_init_13 : decode cX2_init 13 = .ok (.newarray .int, 2) := by decide +kernel
theorem dX2_init_15 : decode cX2_init 15 = .ok (.putfield 15, 3) := by decide +kernel
theorem dX2_init_18 : decode cX2_init 18 = .ok (.aload_n 0, 1) := by decide +kernel
theorem dX2_init_19 : decode cX2_init 19 = .ok (.sipush 300, 3) := by decide +kernel
theorem dX2_init_22 : decode cX2_init 22 = .ok (.newarray .int, 2) := by decide +kernel
theorem dX2_init_24 : decode cX2_init 24 = .ok (.putfield 19, 3) := by decide +kernel
theorem dX2_init_27 : decode cX2_init 27 = .ok (.aload_n 0, 1) := by decide +kernel
theorem dX2_init_28 : decode cX2_init 28 = .ok (.sipush 300, 3) := by decide +kernel
theorem dX2_init_31 : decode cX2_init 31 = .ok (.newarray .boolean, 2) := by decide +kernel
theorem dX2_init_33 : decode cX2_init 33 = .ok (.putfield 22, 3) := by decide +kernel
theorem dX2_init_36 : decode cX2_init 36 = .ok (.aload_n 0, 1) := by decide +kernel
theorem dX2_init_37 : decode cX2_init 37 = .ok (.sipush 300, 3) := by decide +kernel
theorem dX2_init_40 : decode cX2_init 40 = .ok (.newarray .int, 2) := by decide +kernel
theorem dX2_init_42 : decode cX2_init 42 = .ok (.putfield 26, 3) := by decide +kernel
theorem dX2_init_45 : decode cX2_init 45 = .ok (.aload_n 0, 1) := by decide +kernel
theorem dX2_init_46 : decode cX2_init 46 = .ok (.sipush 300, 3) := by decide +kernel
theorem dX2_init_49 : decode cX2_init 49 = .ok (.newarray .int, 2) := by decide +kernel
theorem dX2_init_51 : decode cX2_init 51 = .ok (.putfield 29, 3) := by decide +kernel
theorem dX2_init_54 : decode cX2_init 54 = .ok (.aload_n 0, 1) := by decide +kernel
theorem dX2_init_55 : decode cX2_init 55 = .ok (.sipush 1500, 3) := by decide +kernel
theorem dX2_init_58 : decode cX2_init 58 = .ok (.newarray .long, 2) := by decide +kernel
theorem dX2_init_60 : decode cX2_init 60 = .ok (.putfield 32, 3) := by decide +kernel
theorem dX2_init_63 : decode cX2_init 63 = .ok (.aload_n 0, 1) := by decide +kernel
theorem dX2_init_64 : decode cX2_init 64 = .ok (.sipush 600, 3) := by decide +kernel
theorem dX2_init_67 : decode cX2_init 67 = .ok (.newarray .int, 2) := by decide +kernel
theorem dX2_init_69 : decode cX2_init 69 = .ok (.putfield 36, 3) := by decide +kernel
theorem dX2_init_72 : decode cX2_init 72 = .ok (.aload_n 0, 1) := by decide +kernel
theorem dX2_init_73 : decode cX2_init 73 = .ok (.sipush 300, 3) := by decide +kernel
theorem dX2_init_76 : decode cX2_init 76 = .ok (.newarray .int, 2) := by decide +kernel
theorem dX2_init_78 : decode cX2_init 78 = .ok (.putfield 39, 3) := by decide +kernel
theorem dX2_init_81 : decode cX2_init 81 = .ok (.aload_n 0, 1) := by decide +kernel
theorem dX2_init_82 : decode cX2_init 82 = .ok (.sipush 300, 3) := by decide +kernel
theorem dX2_init_85 : decode cX2_init 85 = .ok (.newarray .int, 2) := by decide +kernel
theorem dX2_init_87 : decode cX2_init 87 = .ok (.putfield 42, 3) := by decide +kernel
theorem dX2_init_90 : decode cX2_init 90 = .ok (.aload_n 0, 1) := by decide +kernel
theorem dX2_init_91 : decode cX2_init 91 = .ok (.sipush 300, 3) := by decide +kernel
theorem dX2_init_94 : decode cX2_init 94 = .ok (.newarray .int, 2) := by decide +kernel
theorem dX2_init_96 : decode cX2_init 96 = .ok (.putfield 45, 3) := by decide +kernel
theorem dX2_init_99 : decode cX2_init 99 = .ok (.aload_n 0, 1) := by decide +kernel
theorem dX2_init_100 : decode cX2_init 100 = .ok (.sipush 300, 3) := by decide +kernel
theorem dX2_init_103 : decode cX2_init 103 = .ok (.newarray .int, 2) := by decide +kernel
theorem dX2_init_105 : decode cX2_init 105 = .ok (.putfield 48, 3) := by decide +kernel
theorem dX2_init_108 : decode cX2_init 108 = .ok (.aload_n 0, 1) := by decide +kernel
theorem dX2_init_109 : decode cX2_init 109 = .ok (.sipush 300, 3) := by decide +kernel
theorem dX2_init_112 : decode cX2_init 112 = .ok (.newarray .int, 2) := by decide +kernel
theorem dX2_init_114 : decode cX2_init 114 = .ok (.putfield 51, 3) := by decide +kernel
theorem dX2_init_117 : decode cX2_init 117 = .ok (.return_, 1) := by decide +kernel
def o_X2_init : List Cond := [.methodLink RX2 3 objectInit, .instanceMethod objectInit, .code objectInit ⟨#[0xb1]⟩ 1 none, .fieldLink RX2 9 "SsaForge$Flow" "reached" "I", .arrayClass .int, .fieldLink RX2 15 "SsaForge$Flow" "idom" "[I", .fieldLink RX2 19 "SsaForge$Flow" "order" "[I", .arrayClass .boolean, .fieldLink RX2 22 "SsaForge$Flow" "inLoop" "[Z", .fieldLink RX2 26 "SsaForge$Flow" "place" "[I", .fieldLink RX2 29 "SsaForge$Flow" "span" "[I", .arrayClass .long, .fieldLink RX2 32 "SsaForge$Flow" "frontier" "[J", .fieldLink RX2 36 "SsaForge$Flow" "stack" "[I", .fieldLink RX2 39 "SsaForge$Flow" "nextGoal" "[I", .fieldLink RX2 42 "SsaForge$Flow" "post" "[I", .fieldLink RX2 45 "SsaForge$Flow" "byPost" "[I", .fieldLink RX2 48 "SsaForge$Flow" "firstChild" "[I", .fieldLink RX2 51 "SsaForge$Flow" "nextChild" "[I"]
def v_X2_init : List Cond := .code yX2_init cX2_init 1 none :: (o_X2_init ++ (wsX20 ++ []))
theorem mow_X2_init : ∀ w ∈ o_X2_init, w ∈ v_X2_init := fun _ h => List.mem_cons_of_mem _ (List.mem_append_left _ h)
theorem mem_X2_init_0 : ∀ w ∈ wsX20, w ∈ v_X2_init := fun _ h => List.mem_cons_of_mem _ (List.mem_append_right _ (List.mem_append_left _ h))
set_option maxRecDepth 20000 in
theorem gw_X2_init : v_X2_init.all goodWord = true := by decide +kernel
set_option maxHeartbeats 4000000 in
set_option maxRecDepth 100000 in
theorem c_X2_init (l : Launch) (dC : Nat → ClassId) (dI : Nat → Nat → Nat) (h0 : Nat) (sz : Nat) : Met l yX2_init v_X2_init ({ frames := 1, cells := 12, slots := 5100, locals := 12 }) (va_Pc [.ref h0] (fun U => U.heap.size = sz ∧ va_P (dC, dI) vwP [(h0, .inr (2, [.int 0, .null, .null, .null, .null, .null, .null, .null, .null, .null, .null, .null, .null]))] U.heap ∧ va_K (dC, dI) vwP [] U ∧ va_D (fun _ => True) [(h0, .inr (2, [.int 0, .null, .null, .null, .null, .null, .null, .null, .null, .null, .null, .null, .null]))])) (va_Qv (fun _ : Unit => True) (fun (_ : Unit) (t : State) => ∃ (q_1 : Nat) (q_3 : Nat) (q_5 : Nat) (q_7 : Nat) (q_9 : Nat) (q_11 : Nat) (q_13 : Nat) (q_15 : Nat) (q_17 : Nat) (q_19 : Nat) (q_21 : Nat) (q_23 : Nat), va_P (dC, dI) vwP [(h0, .inr (2, [.int 0, .ref q_1, .ref q_3, .ref q_5, .ref q_7, .ref q_9, .ref q_11, .ref q_13, .ref q_15, .ref q_17, .ref q_19, .ref q_21, .ref q_23]))] t.heap ∧ va_K (dC, dI) vwP [] t ∧ va_D (va_A [(h0, .inr (2, [.int 0, .null, .null, .null, .null, .null, .null, .null, .null, .null, .null, .null, .null]))] sz) [(h0, .inr (2, [.int 0, .ref q_1, .ref q_3, .ref q_5, .ref q_7, .ref q_9, .ref q_11, .ref q_13, .ref q_15, .ref q_17, .ref q_19, .ref q_21, .ref q_23]))]) (va_A [(h0, .inr (2, [.int 0, .null, .null, .null, .null, .null, .null, .null, .null, .null, .null, .null, .null]))] sz)) 12 5100 (va_A [(h0, .inr (2, [.int 0, .null, .null, .null, .null, .null, .null, .null, .null, .null, .null, .null, .null]))] sz) := by
  refine Met.ofW (cc := cX2_init) (maxL := 1) (ret := none) (by decide) rfl ?_
  intro p e s m args below meth c s₁ B hml hv
  obtain ⟨rfl, hsz, hP, hK, hD0⟩ := hv
  have hx := B.exec
  have hb := B.bytes
  have hr := B.returns
  have hts := atoms_spec (ws := v_X2_init) B.pre
  have hown : s.vm.findClass RX2 = some m.cls := findClass_of_methodNamed B.named
  have hlocks := B.notSynchronized
  have ow : ∀ {k : Nat} {w : Cond}, o_X2_init[k]? = some w → w.before ([.ref h0] : List Value).toArray s = true := fun h => hts _ (mow_X2_init _ (List.mem_of_getElem? h))
  have hin : meth.name = "<init>" := (name_of_methodNamed B.named B.method).1
  subst hsz
  have hD := hD0.self (sz := s.heap.size)
  generalize hAe : va_A [(h0, .inr (2, [.int 0, .null, .null, .null, .null, .null, .null, .null, .null, .null, .null, .null, .null]))] s.heap.size = A at hD ⊢
  have hA : ∀ q : Nat, s.heap.size ≤ q → A q := fun q h => by rw [← hAe]; exact Or.inr h
  have hS : va_S A s.heap s.heap [] := va_S.rf
  have hP : va_P (dC, dI) vwP [(h0, .inr (2, [.int 0, .null, .null, .null, .null, .null, .null, .null, .null, .null, .null, .null, .null]))] s.heap := hP
  have hl := lv_entry ([.ref h0]) (n := 1) (Nat.le_of_ble_eq_true rfl)
  rw [lg_entry_eq]
  generalize (lg_sl ([.ref h0]) ++ List.replicate (1 - (lg_sl ([.ref h0])).length) Slot.unset).toArray = ls at hl ⊢
  have hl : lv_has ls 1 [(0, .ref h0)] := hl
  obtain ⟨H, hH⟩ : ∃ H, H = s.heap := ⟨_, rfl⟩
  rw [← hH] at hP
  have hS : va_S A s.heap H [] := by rw [hH]; exact hS
  rw [← hH]
  refine lv_aload_n hx hb dX2_init_0 rfl (lv_at hl 0 rfl) ?_
  refine W.objInit hx hb hown (ow (k := 0) rfl) (ow (k := 1) rfl) (ow (k := 2) rfl) rfl (by rw [hml]; exact hl.1) rfl dX2_init_1 (Nat.le_of_ble_eq_true rfl) (Nat.le_of_ble_eq_true rfl) ?_
  refine W.eq (g2 := F0 m 4 ls []) rfl ?_
  refine lv_aload_n hx hb dX2_init_4 rfl (lv_at hl 0 rfl) ?_
  refine lv_iconst (v := 0) hx hb dX2_init_5 (by decide) ?_
  refine va_put (D := (dC, dI)) (ci := 2) (v := .int 0) (ty := .int) (C := RX2) (T := TX2) (N := 13) hx hb hts mem_X2_init_0 tyX2 tyX2_ok nmX2 hown hK hP hD hS 0 rfl rfl 0 (by decide) (ow (k := 3) rfl) (fun _ h9 => h9) rfl (by decide +kernel) rfl rfl (Nat.le_of_ble_eq_true rfl) dX2_init_6 (fun H locs hP hD hS => ?_)
  have hP : va_P (dC, dI) vwP [(h0, .inr (2, [.int 0, .null, .null, .null, .null, .null, .null, .null, .null, .null, .null, .null, .null]))] H := hP
  have hD : va_D A [(h0, .inr (2, [.int 0, .null, .null, .null, .null, .null, .null, .null, .null, .null, .null, .null, .null]))] := hD
  refine lv_aload_n hx hb dX2_init_9 rfl (lv_at hl 0 rfl) ?_
  refine lv_sipush (v := 300) hx hb dX2_init_10 (by decide) ?_
  refine va_newa (ty := .int) (n := 300) (N' := 300) (a0 := (300, .inl (fun _ => 0))) hx hb (ow (k := 4) rfl) rfl hK hP hD hS hA (fun _ => rfl) (by decide) (by decide) (by decide) (Nat.le_of_ble_eq_true rfl) (Nat.le_of_ble_eq_true rfl) dX2_init_13 (fun q_1 cA_2 H hK hP hD hS => ?_)
  have hP : va_P (dC, dI) vwP [(h0, .inr (2, [.int 0, .null, .null, .null, .null, .null, .null, .null, .null, .null, .null, .null, .null])), (q_1, .inl (cA_2, 300, .inl (fun _ => 0)))] H := hP
  have hD : va_D A [(h0, .inr (2, [.int 0, .null, .null, .null, .null, .null, .null, .null, .null, .null, .null, .null, .null])), (q_1, .inl (cA_2, 300, .inl (fun _ => 0)))] := hD
  have hK : va_K (dC, dI) vwP [(cA_2, .int)] s := hK
  refine W.widen (k := 1) (n := 300) (Nat.le_of_ble_eq_true rfl) (Nat.le_of_ble_eq_true rfl) ?_
  refine va_putF (D := (dC, dI)) (ci := 2) (v := .ref q_1) (ty := .array .int) (C := RX2) (T := TX2) (N := 13) hx hb hts mem_X2_init_0 tyX2 tyX2_ok nmX2 hown hK hP hD hS 0 rfl rfl 1 (by decide) (ow (k := 5) rfl) (fun _ h9 => h9) rfl hin rfl (by decide +kernel) rfl rfl (Nat.le_of_ble_eq_true rfl) dX2_init_15 (fun H locs hP hD hS => ?_)
  have hP : va_P (dC, dI) vwP [(h0, .inr (2, [.int 0, .ref q_1, .null, .null, .null, .null, .null, .null, .null, .null, .null, .null, .null])), (q_1, .inl (cA_2, 300, .inl (fun _ => 0)))] H := hP
  have hD : va_D A [(h0, .inr (2, [.int 0, .ref q_1, .null, .null, .null, .null, .null, .null, .null, .null, .null, .null, .null])), (q_1, .inl (cA_2, 300, .inl (fun _ => 0)))] := hD
  have hP := hP.sub (ws' := [(h0, .inr (2, [.int 0, .ref q_1, .null, .null, .null, .null, .null, .null, .null, .null, .null, .null, .null]))]) [0] rfl
  have hD := hD.sub (ws' := [(h0, .inr (2, [.int 0, .ref q_1, .null, .null, .null, .null, .null, .null, .null, .null, .null, .null, .null]))]) [0] (by decide) rfl
  have hK := hK.sub (tys' := []) [] rfl
  refine lv_aload_n hx hb dX2_init_18 rfl (lv_at hl 0 rfl) ?_
  refine lv_sipush (v := 300) hx hb dX2_init_19 (by decide) ?_
  refine va_newa (ty := .int) (n := 300) (N' := 300) (a0 := (300, .inl (fun _ => 0))) hx hb (ow (k := 4) rfl) rfl hK hP hD hS hA (fun _ => rfl) (by decide) (by decide) (by decide) (Nat.le_of_ble_eq_true rfl) (Nat.le_of_ble_eq_true rfl) dX2_init_22 (fun q_3 cA_4 H hK hP hD hS => ?_)
  have hP : va_P (dC, dI) vwP [(h0, .inr (2, [.int 0, .ref q_1, .null, .null, .null, .null, .null, .null, .null, .null, .null, .null, .null])), (q_3, .inl (cA_4, 300, .inl (fun _ => 0)))] H := hP
  have hD : va_D A [(h0, .inr (2, [.int 0, .ref q_1, .null, .null, .null, .null, .null, .null, .null, .null, .null, .null, .null])), (q_3, .inl (cA_4, 300, .inl (fun _ => 0)))] := hD
  have hK : va_K (dC, dI) vwP [(cA_4, .int)] s := hK
  refine W.widen (k := 2) (n := 600) (Nat.le_of_ble_eq_true rfl) (Nat.le_of_ble_eq_true rfl) ?_
  refine va_putF (D := (dC, dI)) (ci := 2) (v := .ref q_3) (ty := .array .int) (C := RX2) (T := TX2) (N := 13) hx hb hts mem_X2_init_0 tyX2 tyX2_ok nmX2 hown hK hP hD hS 0 rfl rfl 2 (by decide) (ow (k := 6) rfl) (fun _ h9 => h9) rfl hin rfl (by decide +kernel) rfl rfl (Nat.le_of_ble_eq_true rfl) dX2_init_24 (fun H locs hP hD hS => ?_)
  have hP : va_P (dC, dI) vwP [(h0, .inr (2, [.int 0, .ref q_1, .ref q_3, .null, .null, .null, .null, .null, .null, .null, .null, .null, .null])), (q_3, .inl (cA_4, 300, .inl (fun _ => 0)))] H := hP
  have hD : va_D A [(h0, .inr (2, [.int 0, .ref q_1, .ref q_3, .null, .null, .null, .null, .null, .null, .null, .null, .null, .null])), (q_3, .inl (cA_4, 300, .inl (fun _ => 0)))] := hD
  have hP := hP.sub (ws' := [(h0, .inr (2, [.int 0, .ref q_1, .ref q_3, .null, .null, .null, .null, .null, .null, .null, .null, .null, .null]))]) [0] rfl
  have hD := hD.sub (ws' := [(h0, .inr (2, [.int 0, .ref q_1, .ref q_3, .null, .null, .null, .null, .null, .null, .null, .null, .null, .null]))]) [0] (by decide) rfl
  have hK := hK.sub (tys' := []) [] rfl
  refine lv_aload_n hx hb dX2_init_27 rfl (lv_at hl 0 rfl) ?_
  refine lv_sipush (v := 300) hx hb dX2_init_28 (by decide) ?_
  refine va_newa (ty := .boolean) (n := 300) (N' := 300) (a0 := (300, .inl (fun _ => 0))) hx hb (ow (k := 7) rfl) rfl hK hP hD hS hA (fun _ => rfl) (by decide) (by decide) (by decide) (Nat.le_of_ble_eq_true rfl) (Nat.le_of_ble_eq_true rfl) dX2_init_31 (fun q_5 cA_6 H hK hP hD hS => ?_)
  have hP : va_P (dC, dI) vwP [(h0, .inr (2, [.int 0, .ref q_1, .ref q_3, .null, .null, .null, .null, .null, .null, .null, .null, .null, .null])), (q_5, .inl (cA_6, 300, .inl (fun _ => 0)))] H := hP
  have hD : va_D A [(h0, .inr (2, [.int 0, .ref q_1, .ref q_3, .null, .null, .null, .null, .null, .null, .null, .null, .null, .null])), (q_5, .inl (cA_6, 300, .inl (fun _ => 0)))] := hD
  have hK : va_K (dC, dI) vwP [(cA_6, .boolean)] s := hK
  refine W.widen (k := 3) (n := 900) (Nat.le_of_ble_eq_true rfl) (Nat.le_of_ble_eq_true rfl) ?_
  refine va_putF (D := (dC, dI)) (ci := 2) (v := .ref q_5) (ty := .array .boolean) (C := RX2) (T := TX2) (N := 13) hx hb hts mem_X2_init_0 tyX2 tyX2_ok nmX2 hown hK hP hD hS 0 rfl rfl 3 (by decide) (ow (k := 8) rfl) (fun _ h9 => h9) rfl hin rfl (by decide +kernel) rfl rfl (Nat.le_of_ble_eq_true rfl) dX2_init_33 (fun H locs hP hD hS => ?_)
  have hP : va_P (dC, dI) vwP [(h0, .inr (2, [.int 0, .ref q_1, .ref q_3, .ref q_5, .null, .null, .null, .null, .null, .null, .null, .null, .null])), (q_5, .inl (cA_6, 300, .inl (fun _ => 0)))] H := hP
  have hD : va_D A [(h0, .inr (2, [.int 0, .ref q_1, .ref q_3, .ref q_5, .null, .null, .null, .null, .null, .null, .null, .null, .null])), (q_5, .inl (cA_6, 300, .inl (fun _ => 0)))] := hD
  have hP := hP.sub (ws' := [(h0, .inr (2, [.int 0, .ref q_1, .ref q_3, .ref q_5, .null, .null, .null, .null, .null, .null, .null, .null, .null]))]) [0] rfl
  have hD := hD.sub (ws' := [(h0, .inr (2, [.int 0, .ref q_1, .ref q_3, .ref q_5, .null, .null, .null, .null, .null, .null, .null, .null, .null]))]) [0] (by decide) rfl
  have hK := hK.sub (tys' := []) [] rfl
  refine lv_aload_n hx hb dX2_init_36 rfl (lv_at hl 0 rfl) ?_
  refine lv_sipush (v := 300) hx hb dX2_init_37 (by decide) ?_
  refine va_newa (ty := .int) (n := 300) (N' := 300) (a0 := (300, .inl (fun _ => 0))) hx hb (ow (k := 4) rfl) rfl hK hP hD hS hA (fun _ => rfl) (by decide) (by decide) (by decide) (Nat.le_of_ble_eq_true rfl) (Nat.le_of_ble_eq_true rfl) dX2_init_40 (fun q_7 cA_8 H hK hP hD hS => ?_)
  have hP : va_P (dC, dI) vwP [(h0, .inr (2, [.int 0, .ref q_1, .ref q_3, .ref q_5, .null, .null, .null, .null, .null, .null, .null, .null, .null])), (q_7, .inl (cA_8, 300, .inl (fun _ => 0)))] H := hP
  have hD : va_D A [(h0, .inr (2, [.int 0, .ref q_1, .ref q_3, .ref q_5, .null, .null, .null, .null, .null, .null, .null, .null, .null])), (q_7, .inl (cA_8, 300, .inl (fun _ => 0)))] := hD
  have hK : va_K (dC, dI) vwP [(cA_8, .int)] s := hK
  refine W.widen (k := 4) (n := 1200) (Nat.le_of_ble_eq_true rfl) (Nat.le_of_ble_eq_true rfl) ?_
  refine va_putF (D := (dC, dI)) (ci := 2) (v := .ref q_7) (ty := .array .int) (C := RX2) (T := TX2) (N := 13) hx hb hts mem_X2_init_0 tyX2 tyX2_ok nmX2 hown hK hP hD hS 0 rfl rfl 4 (by decide) (ow (k := 9) rfl) (fun _ h9 => h9) rfl hin rfl (by decide +kernel) rfl rfl (Nat.le_of_ble_eq_true rfl) dX2_init_42 (fun H locs hP hD hS => ?_)
  have hP : va_P (dC, dI) vwP [(h0, .inr (2, [.int 0, .ref q_1, .ref q_3, .ref q_5, .ref q_7, .null, .null, .null, .null, .null, .null, .null, .null])), (q_7, .inl (cA_8, 300, .inl (fun _ => 0)))] H := hP
  have hD : va_D A [(h0, .inr (2, [.int 0, .ref q_1, .ref q_3, .ref q_5, .ref q_7, .null, .null, .null, .null, .null, .null, .null, .null])), (q_7, .inl (cA_8, 300, .inl (fun _ => 0)))] := hD
  have hP := hP.sub (ws' := [(h0, .inr (2, [.int 0, .ref q_1, .ref q_3, .ref q_5, .ref q_7, .null, .null, .null, .null, .null, .null, .null, .null]))]) [0] rfl
  have hD := hD.sub (ws' := [(h0, .inr (2, [.int 0, .ref q_1, .ref q_3, .ref q_5, .ref q_7, .null, .null, .null, .null, .null, .null, .null, .null]))]) [0] (by decide) rfl
  have hK := hK.sub (tys' := []) [] rfl
  refine lv_aload_n hx hb dX2_init_45 rfl (lv_at hl 0 rfl) ?_
  refine lv_sipush (v := 300) hx hb dX2_init_46 (by decide) ?_
  refine va_newa (ty := .int) (n := 300) (N' := 300) (a0 := (300, .inl (fun _ => 0))) hx hb (ow (k := 4) rfl) rfl hK hP hD hS hA (fun _ => rfl) (by decide) (by decide) (by decide) (Nat.le_of_ble_eq_true rfl) (Nat.le_of_ble_eq_true rfl) dX2_init_49 (fun q_9 cA_10 H hK hP hD hS => ?_)
  have hP : va_P (dC, dI) vwP [(h0, .inr (2, [.int 0, .ref q_1, .ref q_3, .ref q_5, .ref q_7, .null, .null, .null, .null, .null, .null, .null, .null])), (q_9, .inl (cA_10, 300, .inl (fun _ => 0)))] H := hP
  have hD : va_D A [(h0, .inr (2, [.int 0, .ref q_1, .ref q_3, .ref q_5, .ref q_7, .null, .null, .null, .null, .null, .null, .null, .null])), (q_9, .inl (cA_10, 300, .inl (fun _ => 0)))] := hD
  have hK : va_K (dC, dI) vwP [(cA_10, .int)] s := hK
  refine W.widen (k := 5) (n := 1500) (Nat.le_of_ble_eq_true rfl) (Nat.le_of_ble_eq_true rfl) ?_
  refine va_putF (D := (dC, dI)) (ci := 2) (v := .ref q_9) (ty := .array .int) (C := RX2) (T := TX2) (N := 13) hx hb hts mem_X2_init_0 tyX2 tyX2_ok nmX2 hown hK hP hD hS 0 rfl rfl 5 (by decide) (ow (k := 10) rfl) (fun _ h9 => h9) rfl hin rfl (by decide +kernel) rfl rfl (Nat.le_of_ble_eq_true rfl) dX2_init_51 (fun H locs hP hD hS => ?_)
  have hP : va_P (dC, dI) vwP [(h0, .inr (2, [.int 0, .ref q_1, .ref q_3, .ref q_5, .ref q_7, .ref q_9, .null, .null, .null, .null, .null, .null, .null])), (q_9, .inl (cA_10, 300, .inl (fun _ => 0)))] H := hP
  have hD : va_D A [(h0, .inr (2, [.int 0, .ref q_1, .ref q_3, .ref q_5, .ref q_7, .ref q_9, .null, .null, .null, .null, .null, .null, .null])), (q_9, .inl (cA_10, 300, .inl (fun _ => 0)))] := hD
  have hP := hP.sub (ws' := [(h0, .inr (2, [.int 0, .ref q_1, .ref q_3, .ref q_5, .ref q_7, .ref q_9, .null, .null, .null, .null, .null, .null, .null]))]) [0] rfl
  have hD := hD.sub (ws' := [(h0, .inr (2, [.int 0, .ref q_1, .ref q_3, .ref q_5, .ref q_7, .ref q_9, .null, .null, .null, .null, .null, .null, .null]))]) [0] (by decide) rfl
  have hK := hK.sub (tys' := []) [] rfl
  refine lv_aload_n hx hb dX2_init_54 rfl (lv_at hl 0 rfl) ?_
  refine lv_sipush (v := 1500) hx hb dX2_init_55 (by decide) ?_
  refine va_newa (ty := .long) (n := 1500) (N' := 1500) (a0 := (1500, .inr (.inl (fun _ => 0)))) hx hb (ow (k := 11) rfl) rfl hK hP hD hS hA (fun _ => rfl) (by decide) (by decide) (by decide) (Nat.le_of_ble_eq_true rfl) (Nat.le_of_ble_eq_true rfl) dX2_init_58 (fun q_11 cA_12 H hK hP hD hS => ?_)
  have hP : va_P (dC, dI) vwP [(h0, .inr (2, [.int 0, .ref q_1, .ref q_3, .ref q_5, .ref q_7, .ref q_9, .null, .null, .null, .null, .null, .null, .null])), (q_11, .inl (cA_12, 1500, .inr (.inl (fun _ => 0))))] H := hP
  have hD : va_D A [(h0, .inr (2, [.int 0, .ref q_1, .ref q_3, .ref q_5, .ref q_7, .ref q_9, .null, .null, .null, .null, .null, .null, .null])), (q_11, .inl (cA_12, 1500, .inr (.inl (fun _ => 0))))] := hD
  have hK : va_K (dC, dI) vwP [(cA_12, .long)] s := hK
  refine W.widen (k := 6) (n := 3000) (Nat.le_of_ble_eq_true rfl) (Nat.le_of_ble_eq_true rfl) ?_
  refine va_putF (D := (dC, dI)) (ci := 2) (v := .ref q_11) (ty := .array .long) (C := RX2) (T := TX2) (N := 13) hx hb hts mem_X2_init_0 tyX2 tyX2_ok nmX2 hown hK hP hD hS 0 rfl rfl 6 (by decide) (ow (k := 12) rfl) (fun _ h9 => h9) rfl hin rfl (by decide +kernel) rfl rfl (Nat.le_of_ble_eq_true rfl) dX2_init_60 (fun H locs hP hD hS => ?_)
  have hP : va_P (dC, dI) vwP [(h0, .inr (2, [.int 0, .ref q_1, .ref q_3, .ref q_5, .ref q_7, .ref q_9, .ref q_11, .null, .null, .null, .null, .null, .null])), (q_11, .inl (cA_12, 1500, .inr (.inl (fun _ => 0))))] H := hP
  have hD : va_D A [(h0, .inr (2, [.int 0, .ref q_1, .ref q_3, .ref q_5, .ref q_7, .ref q_9, .ref q_11, .null, .null, .null, .null, .null, .null])), (q_11, .inl (cA_12, 1500, .inr (.inl (fun _ => 0))))] := hD
  have hP := hP.sub (ws' := [(h0, .inr (2, [.int 0, .ref q_1, .ref q_3, .ref q_5, .ref q_7, .ref q_9, .ref q_11, .null, .null, .null, .null, .null, .null]))]) [0] rfl
  have hD := hD.sub (ws' := [(h0, .inr (2, [.int 0, .ref q_1, .ref q_3, .ref q_5, .ref q_7, .ref q_9, .ref q_11, .null, .null, .null, .null, .null, .null]))]) [0] (by decide) rfl
  have hK := hK.sub (tys' := []) [] rfl
  refine lv_aload_n hx hb dX2_init_63 rfl (lv_at hl 0 rfl) ?_
  refine lv_sipush (v := 600) hx hb dX2_init_64 (by decide) ?_
  refine va_newa (ty := .int) (n := 600) (N' := 600) (a0 := (600, .inl (fun _ => 0))) hx hb (ow (k := 4) rfl) rfl hK hP hD hS hA (fun _ => rfl) (by decide) (by decide) (by decide) (Nat.le_of_ble_eq_true rfl) (Nat.le_of_ble_eq_true rfl) dX2_init_67 (fun q_13 cA_14 H hK hP hD hS => ?_)
  have hP : va_P (dC, dI) vwP [(h0, .inr (2, [.int 0, .ref q_1, .ref q_3, .ref q_5, .ref q_7, .ref q_9, .ref q_11, .null, .null, .null, .null, .null, .null])), (q_13, .inl (cA_14, 600, .inl (fun _ => 0)))] H := hP
  have hD : va_D A [(h0, .inr (2, [.int 0, .ref q_1, .ref q_3, .ref q_5, .ref q_7, .ref q_9, .ref q_11, .null, .null, .null, .null, .null, .null])), (q_13, .inl (cA_14, 600, .inl (fun _ => 0)))] := hD
  have hK : va_K (dC, dI) vwP [(cA_14, .int)] s := hK
  refine W.widen (k := 7) (n := 3600) (Nat.le_of_ble_eq_true rfl) (Nat.le_of_ble_eq_true rfl) ?_
  refine va_putF (D := (dC, dI)) (ci := 2) (v := .ref q_13) (ty := .array .int) (C := RX2) (T := TX2) (N := 13) hx hb hts mem_X2_init_0 tyX2 tyX2_ok nmX2 hown hK hP hD hS 0 rfl rfl 7 (by decide) (ow (k := 13) rfl) (fun _ h9 => h9) rfl hin rfl (by decide +kernel) rfl rfl (Nat.le_of_ble_eq_true rfl) dX2_init_69 (fun H locs hP hD hS => ?_)
  have hP : va_P (dC, dI) vwP [(h0, .inr (2, [.int 0, .ref q_1, .ref q_3, .ref q_5, .ref q_7, .ref q_9, .ref q_11, .ref q_13, .null, .null, .null, .null, .null])), (q_13, .inl (cA_14, 600, .inl (fun _ => 0)))] H := hP
  have hD : va_D A [(h0, .inr (2, [.int 0, .ref q_1, .ref q_3, .ref q_5, .ref q_7, .ref q_9, .ref q_11, .ref q_13, .null, .null, .null, .null, .null])), (q_13, .inl (cA_14, 600, .inl (fun _ => 0)))] := hD
  have hP := hP.sub (ws' := [(h0, .inr (2, [.int 0, .ref q_1, .ref q_3, .ref q_5, .ref q_7, .ref q_9, .ref q_11, .ref q_13, .null, .null, .null, .null, .null]))]) [0] rfl
  have hD := hD.sub (ws' := [(h0, .inr (2, [.int 0, .ref q_1, .ref q_3, .ref q_5, .ref q_7, .ref q_9, .ref q_11, .ref q_13, .null, .null, .null, .null, .null]))]) [0] (by decide) rfl
  have hK := hK.sub (tys' := []) [] rfl
  refine lv_aload_n hx hb dX2_init_72 rfl (lv_at hl 0 rfl) ?_
  refine lv_sipush (v := 300) hx hb dX2_init_73 (by decide) ?_
  refine va_newa (ty := .int) (n := 300) (N' := 300) (a0 := (300, .inl (fun _ => 0))) hx hb (ow (k := 4) rfl) rfl hK hP hD hS hA (fun _ => rfl) (by decide) (by decide) (by decide) (Nat.le_of_ble_eq_true rfl) (Nat.le_of_ble_eq_true rfl) dX2_init_76 (fun q_15 cA_16 H hK hP hD hS => ?_)
  have hP : va_P (dC, dI) vwP [(h0, .inr (2, [.int 0, .ref q_1, .ref q_3, .ref q_5, .ref q_7, .ref q_9, .ref q_11, .ref q_13, .null, .null, .null, .null, .null])), (q_15, .inl (cA_16, 300, .inl (fun _ => 0)))] H := hP
  have hD : va_D A [(h0, .inr (2, [.int 0, .ref q_1, .ref q_3, .ref q_5, .ref q_7, .ref q_9, .ref q_11, .ref q_13, .null, .null, .null, .null, .null])), (q_15, .inl (cA_16, 300, .inl (fun _ => 0)))] := hD
  have hK : va_K (dC, dI) vwP [(cA_16, .int)] s := hK
  refine W.widen (k := 8) (n := 3900) (Nat.le_of_ble_eq_true rfl) (Nat.le_of_ble_eq_true rfl) ?_
  refine va_putF (D := (dC, dI)) (ci := 2) (v := .ref q_15) (ty := .array .int) (C := RX2) (T := TX2) (N := 13) hx hb hts mem_X2_init_0 tyX2 tyX2_ok nmX2 hown hK hP hD hS 0 rfl rfl 8 (by decide) (ow (k := 14) rfl) (fun _ h9 => h9) rfl hin rfl (by decide +kernel) rfl rfl (Nat.le_of_ble_eq_true rfl) dX2_init_78 (fun H locs hP hD hS => ?_)
  have hP : va_P (dC, dI) vwP [(h0, .inr (2, [.int 0, .ref q_1, .ref q_3, .ref q_5, .ref q_7, .ref q_9, .ref q_11, .ref q_13, .ref q_15, .null, .null, .null, .null])), (q_15, .inl (cA_16, 300, .inl (fun _ => 0)))] H := hP
  have hD : va_D A [(h0, .inr (2, [.int 0, .ref q_1, .ref q_3, .ref q_5, .ref q_7, .ref q_9, .ref q_11, .ref q_13, .ref q_15, .null, .null, .null, .null])), (q_15, .inl (cA_16, 300, .inl (fun _ => 0)))] := hD
  have hP := hP.sub (ws' := [(h0, .inr (2, [.int 0, .ref q_1, .ref q_3, .ref q_5, .ref q_7, .ref q_9, .ref q_11, .ref q_13, .ref q_15, .null, .null, .null, .null]))]) [0] rfl
  have hD := hD.sub (ws' := [(h0, .inr (2, [.int 0, .ref q_1, .ref q_3, .ref q_5, .ref q_7, .ref q_9, .ref q_11, .ref q_13, .ref q_15, .null, .null, .null, .null]))]) [0] (by decide) rfl
  have hK := hK.sub (tys' := []) [] rfl
  refine lv_aload_n hx hb dX2_init_81 rfl (lv_at hl 0 rfl) ?_
  refine lv_sipush (v := 300) hx hb dX2_init_82 (by decide) ?_
  refine va_newa (ty := .int) (n := 300) (N' := 300) (a0 := (300, .inl (fun _ => 0))) hx hb (ow (k := 4) rfl) rfl hK hP hD hS hA (fun _ => rfl) (by decide) (by decide) (by decide) (Nat.le_of_ble_eq_true rfl) (Nat.le_of_ble_eq_true rfl) dX2_init_85 (fun q_17 cA_18 H hK hP hD hS => ?_)
  have hP : va_P (dC, dI) vwP [(h0, .inr (2, [.int 0, .ref q_1, .ref q_3, .ref q_5, .ref q_7, .ref q_9, .ref q_11, .ref q_13, .ref q_15, .null, .null, .null, .null])), (q_17, .inl (cA_18, 300, .inl (fun _ => 0)))] H := hP
  have hD : va_D A [(h0, .inr (2, [.int 0, .ref q_1, .ref q_3, .ref q_5, .ref q_7, .ref q_9, .ref q_11, .ref q_13, .ref q_15, .null, .null, .null, .null])), (q_17, .inl (cA_18, 300, .inl (fun _ => 0)))] := hD
  have hK : va_K (dC, dI) vwP [(cA_18, .int)] s := hK
  refine W.widen (k := 9) (n := 4200) (Nat.le_of_ble_eq_true rfl) (Nat.le_of_ble_eq_true rfl) ?_
  refine va_putF (D := (dC, dI)) (ci := 2) (v := .ref q_17) (ty := .array .int) (C := RX2) (T := TX2) (N := 13) hx hb hts mem_X2_init_0 tyX2 tyX2_ok nmX2 hown hK hP hD hS 0 rfl rfl 9 (by decide) (ow (k := 15) rfl) (fun _ h9 => h9) rfl hin rfl (by decide +kernel) rfl rfl (Nat.le_of_ble_eq_true rfl) dX2_init_87 (fun H locs hP hD hS => ?_)
  have hP : va_P (dC, dI) vwP [(h0, .inr (2, [.int 0, .ref q_1, .ref q_3, .ref q_5, .ref q_7, .ref q_9, .ref q_11, .ref q_13, .ref q_15, .ref q_17, .null, .null, .null])), (q_17, .inl (cA_18, 300, .inl (fun _ => 0)))] H := hP
  have hD : va_D A [(h0, .inr (2, [.int 0, .ref q_1, .ref q_3, .ref q_5, .ref q_7, .ref q_9, .ref q_11, .ref q_13, .ref q_15, .ref q_17, .null, .null, .null])), (q_17, .inl (cA_18, 300, .inl (fun _ => 0)))] := hD
  have hP := hP.sub (ws' := [(h0, .inr (2, [.int 0, .ref q_1, .ref q_3, .ref q_5, .ref q_7, .ref q_9, .ref q_11, .ref q_13, .ref q_15, .ref q_17, .null, .null, .null]))]) [0] rfl
  have hD := hD.sub (ws' := [(h0, .inr (2, [.int 0, .ref q_1, .ref q_3, .ref q_5, .ref q_7, .ref q_9, .ref q_11, .ref q_13, .ref q_15, .ref q_17, .null, .null, .null]))]) [0] (by decide) rfl
  have hK := hK.sub (tys' := []) [] rfl
  refine lv_aload_n hx hb dX2_init_90 rfl (lv_at hl 0 rfl) ?_
  refine lv_sipush (v := 300) hx hb dX2_init_91 (by decide) ?_
  refine va_newa (ty := .int) (n := 300) (N' := 300) (a0 := (300, .inl (fun _ => 0))) hx hb (ow (k := 4) rfl) rfl hK hP hD hS hA (fun _ => rfl) (by decide) (by decide) (by decide) (Nat.le_of_ble_eq_true rfl) (Nat.le_of_ble_eq_true rfl) dX2_init_94 (fun q_19 cA_20 H hK hP hD hS => ?_)
  have hP : va_P (dC, dI) vwP [(h0, .inr (2, [.int 0, .ref q_1, .ref q_3, .ref q_5, .ref q_7, .ref q_9, .ref q_11, .ref q_13, .ref q_15, .ref q_17, .null, .null, .null])), (q_19, .inl (cA_20, 300, .inl (fun _ => 0)))] H := hP
  have hD : va_D A [(h0, .inr (2, [.int 0, .ref q_1, .ref q_3, .ref q_5, .ref q_7, .ref q_9, .ref q_11, .ref q_13, .ref q_15, .ref q_17, .null, .null, .null])), (q_19, .inl (cA_20, 300, .inl (fun _ => 0)))] := hD
  have hK : va_K (dC, dI) vwP [(cA_20, .int)] s := hK
  refine W.widen (k := 10) (n := 4500) (Nat.le_of_ble_eq_true rfl) (Nat.le_of_ble_eq_true rfl) ?_
  refine va_putF (D := (dC, dI)) (ci := 2) (v := .ref q_19) (ty := .array .int) (C := RX2) (T := TX2) (N := 13) hx hb hts mem_X2_init_0 tyX2 tyX2_ok nmX2 hown hK hP hD hS 0 rfl rfl 10 (by decide) (ow (k := 16) rfl) (fun _ h9 => h9) rfl hin rfl (by decide +kernel) rfl rfl (Nat.le_of_ble_eq_true rfl) dX2_init_96 (fun H locs hP hD hS => ?_)
  have hP : va_P (dC, dI) vwP [(h0, .inr (2, [.int 0, .ref q_1, .ref q_3, .ref q_5, .ref q_7, .ref q_9, .ref q_11, .ref q_13, .ref q_15, .ref q_17, .ref q_19, .null, .null])), (q_19, .inl (cA_20, 300, .inl (fun _ => 0)))] H := hP
  have hD : va_D A [(h0, .inr (2, [.int 0, .ref q_1, .ref q_3, .ref q_5, .ref q_7, .ref q_9, .ref q_11, .ref q_13, .ref q_15, .ref q_17, .ref q_19, .null, .null])), (q_19, .inl (cA_20, 300, .inl (fun _ => 0)))] := hD
  have hP := hP.sub (ws' := [(h0, .inr (2, [.int 0, .ref q_1, .ref q_3, .ref q_5, .ref q_7, .ref q_9, .ref q_11, .ref q_13, .ref q_15, .ref q_17, .ref q_19, .null, .null]))]) [0] rfl
  have hD := hD.sub (ws' := [(h0, .inr (2, [.int 0, .ref q_1, .ref q_3, .ref q_5, .ref q_7, .ref q_9, .ref q_11, .ref q_13, .ref q_15, .ref q_17, .ref q_19, .null, .null]))]) [0] (by decide) rfl
  have hK := hK.sub (tys' := []) [] rfl
  refine lv_aload_n hx hb dX2_init_99 rfl (lv_at hl 0 rfl) ?_
  refine lv_sipush (v := 300) hx hb dX2_init_100 (by decide) ?_
  refine va_newa (ty := .int) (n := 300) (N' := 300) (a0 := (300, .inl (fun _ => 0))) hx hb (ow (k := 4) rfl) rfl hK hP hD hS hA (fun _ => rfl) (by decide) (by decide) (by decide) (Nat.le_of_ble_eq_true rfl) (Nat.le_of_ble_eq_true rfl) dX2_init_103 (fun q_21 cA_22 H hK hP hD hS => ?_)
  have hP : va_P (dC, dI) vwP [(h0, .inr (2, [.int 0, .ref q_1, .ref q_3, .ref q_5, .ref q_7, .ref q_9, .ref q_11, .ref q_13, .ref q_15, .ref q_17, .ref q_19, .null, .null])), (q_21, .inl (cA_22, 300, .inl (fun _ => 0)))] H := hP
  have hD : va_D A [(h0, .inr (2, [.int 0, .ref q_1, .ref q_3, .ref q_5, .ref q_7, .ref q_9, .ref q_11, .ref q_13, .ref q_15, .ref q_17, .ref q_19, .null, .null])), (q_21, .inl (cA_22, 300, .inl (fun _ => 0)))] := hD
  have hK : va_K (dC, dI) vwP [(cA_22, .int)] s := hK
  refine W.widen (k := 11) (n := 4800) (Nat.le_of_ble_eq_true rfl) (Nat.le_of_ble_eq_true rfl) ?_
  refine va_putF (D := (dC, dI)) (ci := 2) (v := .ref q_21) (ty := .array .int) (C := RX2) (T := TX2) (N := 13) hx hb hts mem_X2_init_0 tyX2 tyX2_ok nmX2 hown hK hP hD hS 0 rfl rfl 11 (by decide) (ow (k := 17) rfl) (fun _ h9 => h9) rfl hin rfl (by decide +kernel) rfl rfl (Nat.le_of_ble_eq_true rfl) dX2_init_105 (fun H locs hP hD hS => ?_)
  have hP : va_P (dC, dI) vwP [(h0, .inr (2, [.int 0, .ref q_1, .ref q_3, .ref q_5, .ref q_7, .ref q_9, .ref q_11, .ref q_13, .ref q_15, .ref q_17, .ref q_19, .ref q_21, .null])), (q_21, .inl (cA_22, 300, .inl (fun _ => 0)))] H := hP
  have hD : va_D A [(h0, .inr (2, [.int 0, .ref q_1, .ref q_3, .ref q_5, .ref q_7, .ref q_9, .ref q_11, .ref q_13, .ref q_15, .ref q_17, .ref q_19, .ref q_21, .null])), (q_21, .inl (cA_22, 300, .inl (fun _ => 0)))] := hD
  have hP := hP.sub (ws' := [(h0, .inr (2, [.int 0, .ref q_1, .ref q_3, .ref q_5, .ref q_7, .ref q_9, .ref q_11, .ref q_13, .ref q_15, .ref q_17, .ref q_19, .ref q_21, .null]))]) [0] rfl
  have hD := hD.sub (ws' := [(h0, .inr (2, [.int 0, .ref q_1, .ref q_3, .ref q_5, .ref q_7, .ref q_9, .ref q_11, .ref q_13, .ref q_15, .ref q_17, .ref q_19, .ref q_21, .null]))]) [0] (by decide) rfl
  have hK := hK.sub (tys' := []) [] rfl
  refine lv_aload_n hx hb dX2_init_108 rfl (lv_at hl 0 rfl) ?_
  refine lv_sipush (v := 300) hx hb dX2_init_109 (by decide) ?_
  refine va_newa (ty := .int) (n := 300) (N' := 300) (a0 := (300, .inl (fun _ => 0))) hx hb (ow (k := 4) rfl) rfl hK hP hD hS hA (fun _ => rfl) (by decide) (by decide) (by decide) (Nat.le_of_ble_eq_true rfl) (Nat.le_of_ble_eq_true rfl) dX2_init_112 (fun q_23 cA_24 H hK hP hD hS => ?_)
  have hP : va_P (dC, dI) vwP [(h0, .inr (2, [.int 0, .ref q_1, .ref q_3, .ref q_5, .ref q_7, .ref q_9, .ref q_11, .ref q_13, .ref q_15, .ref q_17, .ref q_19, .ref q_21, .null])), (q_23, .inl (cA_24, 300, .inl (fun _ => 0)))] H := hP
  have hD : va_D A [(h0, .inr (2, [.int 0, .ref q_1, .ref q_3, .ref q_5, .ref q_7, .ref q_9, .ref q_11, .ref q_13, .ref q_15, .ref q_17, .ref q_19, .ref q_21, .null])), (q_23, .inl (cA_24, 300, .inl (fun _ => 0)))] := hD
  have hK : va_K (dC, dI) vwP [(cA_24, .int)] s := hK
  refine W.widen (k := 12) (n := 5100) (Nat.le_of_ble_eq_true rfl) (Nat.le_of_ble_eq_true rfl) ?_
  refine va_putF (D := (dC, dI)) (ci := 2) (v := .ref q_23) (ty := .array .int) (C := RX2) (T := TX2) (N := 13) hx hb hts mem_X2_init_0 tyX2 tyX2_ok nmX2 hown hK hP hD hS 0 rfl rfl 12 (by decide) (ow (k := 18) rfl) (fun _ h9 => h9) rfl hin rfl (by decide +kernel) rfl rfl (Nat.le_of_ble_eq_true rfl) dX2_init_114 (fun H locs hP hD hS => ?_)
  have hP : va_P (dC, dI) vwP [(h0, .inr (2, [.int 0, .ref q_1, .ref q_3, .ref q_5, .ref q_7, .ref q_9, .ref q_11, .ref q_13, .ref q_15, .ref q_17, .ref q_19, .ref q_21, .ref q_23])), (q_23, .inl (cA_24, 300, .inl (fun _ => 0)))] H := hP
  have hD : va_D A [(h0, .inr (2, [.int 0, .ref q_1, .ref q_3, .ref q_5, .ref q_7, .ref q_9, .ref q_11, .ref q_13, .ref q_15, .ref q_17, .ref q_19, .ref q_21, .ref q_23])), (q_23, .inl (cA_24, 300, .inl (fun _ => 0)))] := hD
  have hP := hP.sub (ws' := [(h0, .inr (2, [.int 0, .ref q_1, .ref q_3, .ref q_5, .ref q_7, .ref q_9, .ref q_11, .ref q_13, .ref q_15, .ref q_17, .ref q_19, .ref q_21, .ref q_23]))]) [0] rfl
  have hD := hD.sub (ws' := [(h0, .inr (2, [.int 0, .ref q_1, .ref q_3, .ref q_5, .ref q_7, .ref q_9, .ref q_11, .ref q_13, .ref q_15, .ref q_17, .ref q_19, .ref q_21, .ref q_23]))]) [0] (by decide) rfl
  have hK := hK.sub (tys' := []) [] rfl
  refine W.widen (k := 12) (n := 5100) (Nat.le_of_ble_eq_true rfl) (Nat.le_of_ble_eq_true rfl) ?_
  exact W.vret hx hb hr (fun t ht hW => ⟨⟨(), rfl, trivial, q_1, q_3, q_5, q_7, q_9, q_11, q_13, q_15, q_17, q_19, q_21, q_23, by rw [ht]; exact hP, va_K.moved hW.alike hK, hD⟩, hS.F ht⟩) hS.2.2 dX2_init_117
theorem dX3_init_0 : decode cX3_init 0 = .ok (.aload_n 0, 1) := by decide +kernel
theorem dX3_init_1 : decode cX3_init 1 = .ok (.invokespecial 3, 3) := by decide +kernel
theorem dX3_init_4 : decode cX3_init 4 = .ok (.aload_n 0, 1) := by decide +kernel
theorem dX3_init_5 : decode cX3_init 5 = .ok (.sipush 1024, 3) := by decide +kernel
theorem dX3_init_8 : decode cX3_init 8 = .ok (.newarray .long, 2) := by decide +kernel
theorem dX3_init_10 : decode cX3_init 10 = .ok (.putfield 9, 3) := by decide +kernel
theorem dX3_init_13 : decode cX3_init 13 = .ok (.aload_n 0, 1) := by decide +kernel
theorem dX3_init_14 : decode cX3_init 14 = .ok (.sipush 2000, 3) := by decide +kernel
theorem dX3_init_17 : decode cX3_init 17 = .ok (.newarray .int, 2) := by decide +kernel
theorem dX3_init_19 : decode cX3_init 19 = .ok (.putfield 15, 3) := by decide +kernel
theorem dX3_init_22 : decode cX3_init 22 = .ok (.aload_n 0, 1) := by decide +kernel
theorem dX3_init_23 : decode cX3_init 23 = .ok (.iconst 0, 1) := by decide +kernel
theorem dX3_init_24 : decode cX3_init 24 = .ok (.putfield 19, 3) := by decide +kernel
theorem dX3_init_27 : decode cX3_init 27 = .ok (.aload_n 0, 1) := by decide +kernel
theorem dX3_init_28 : decode cX3_init 28 = .ok (.sipush 300, 3) := by decide +kernel
theorem dX3_init_31 : decode cX3_init 31 = .ok (.newarray .int, 2) := by decide +kernel
theorem dX3_init_33 : decode cX3_init 33 = .ok (.putfield 23, 3) := by decide +kernel
theorem dX3_init_36 : decode cX3_init 36 = .ok (.aload_n 0, 1) := by decide +kernel
theorem dX3_init_37 : decode cX3_init 37 = .ok (.sipush 300, 3) := by decide +kernel
theorem dX3_init_40 : decode cX3_init 40 = .ok (.newarray .int, 2) := by decide +kernel
theorem dX3_init_42 : decode cX3_init 42 = .ok (.putfield 26, 3) := by decide +kernel
theorem dX3_init_45 : decode cX3_init 45 = .ok (.return_, 1) := by decide +kernel
def o_X3_init : List Cond := [.methodLink RX3 3 objectInit, .instanceMethod objectInit, .code objectInit ⟨#[0xb1]⟩ 1 none, .arrayClass .long, .fieldLink RX3 9 "SsaForge$Likes" "instead" "[J", .arrayClass .int, .fieldLink RX3 15 "SsaForge$Likes" "standing" "[I", .fieldLink RX3 19 "SsaForge$Likes" "standingCount" "I", .fieldLink RX3 23 "SsaForge$Likes" "path" "[I", .fieldLink RX3 26 "SsaForge$Likes" "pathMark" "[I"]
def v_X3_init : List Cond := .code yX3_init cX3_init 1 none :: (o_X3_init ++ (wsX30 ++ []))
theorem mow_X3_init : ∀ w ∈ o_X3_init, w ∈ v_X3_init := fun _ h => List.mem_cons_of_mem _ (List.mem_append_left _ h)
theorem mem_X3_init_0 : ∀ w ∈ wsX30, w ∈ v_X3_init := fun _ h => List.mem_cons_of_mem _ (List.mem_append_right _ (List.mem_append_left _ h))
set_option maxRecDepth 20000 in
theorem gw_X3_init : v_X3_init.all goodWord = true := by decide +kernel
set_option maxHeartbeats 4000000 in
set_option maxRecDepth 100000 in
theorem c_X3_init (l : Launch) (dC : Nat → ClassId) (dI : Nat → Nat → Nat) (h0 : Nat) (sz : Nat) : Met l yX3_init v_X3_init ({ frames := 1, cells := 4, slots := 3624, locals := 12 }) (va_Pc [.ref h0] (fun U => U.heap.size = sz ∧ va_P (dC, dI) vwP [(h0, .inr (3, [.null, .null, .int 0, .null, .null]))] U.heap ∧ va_K (dC, dI) vwP [] U ∧ va_D (fun _ => True) [(h0, .inr (3, [.null, .null, .int 0, .null, .null]))])) (va_Qv (fun _ : Unit => True) (fun (_ : Unit) (t : State) => ∃ (q_1 : Nat) (q_3 : Nat) (q_5 : Nat) (q_7 : Nat), va_P (dC, dI) vwP [(h0, .inr (3, [.ref q_1, .ref q_3, .int 0, .ref q_5, .ref q_7]))] t.heap ∧ va_K (dC, dI) vwP [] t ∧ va_D (va_A [(h0, .inr (3, [.null, .null, .int 0, .null, .null]))] sz) [(h0, .inr (3, [.ref q_1, .ref q_3, .int 0, .ref q_5, .ref q_7]))]) (va_A [(h0, .inr (3, [.null, .null, .int 0, .null, .null]))] sz)) 4 3624 (va_A [(h0, .inr (3, [.null, .null, .int 0, .null, .null]))] sz) := by
  refine Met.ofW (cc := cX3_init) (maxL := 1) (ret := none) (by decide) rfl ?_
  intro p e s m args below meth c s₁ B hml hv
  obtain ⟨rfl, hsz, hP, hK, hD0⟩ := hv
  have hx := B.exec
  have hb := B.bytes
  have hr := B.returns
  have hts := atoms_spec (ws := v_X3_init) B.pre
  have hown : s.vm.findClass RX3 = some m.cls := findClass_of_methodNamed B.named
  have hlocks := B.notSynchronized
  have ow : ∀ {k : Nat} {w : Cond}, o_X3_init[k]? = some w → w.before ([.ref h0] : List Value).toArray s = true := fun h => hts _ (mow_X3_init _ (List.mem_of_getElem? h))
  have hin : meth.name = "<init>" := (name_of_methodNamed B.named B.method).1
  subst hsz
  have hD := hD0.self (sz := s.heap.size)
  generalize hAe : va_A [(h0, .inr (3, [.null, .null, .int 0, .null, .null]))] s.heap.size = A at hD ⊢
  have hA : ∀ q : Nat, s.heap.size ≤ q → A q := fun q h => by rw [← hAe]; exact Or.inr h
  have hS : va_S A s.heap s.heap [] := va_S.rf
  have hP : va_P (dC, dI) vwP [(h0, .inr (3, [.null, .null, .int 0, .null, .null]))] s.heap := hP
  have hl := lv_entry ([.ref h0]) (n := 1) (Nat.le_of_ble_eq_true rfl)
  rw [lg_entry_eq]
  generalize (lg_sl ([.ref h0]) ++ List.replicate (1 - (lg_sl ([.ref h0])).length) Slot.unset).toArray = ls at hl ⊢
  have hl : lv_has ls 1 [(0, .ref h0)] := hl
  obtain ⟨H, hH⟩ : ∃ H, H = s.heap := ⟨_, rfl⟩
  rw [← hH] at hP
  have hS : va_S A s.heap H [] := by rw [hH]; exact hS
  rw [← hH]
  refine lv_aload_n hx hb dX3_init_0 rfl (lv_at hl 0 rfl) ?_
  refine W.objInit hx hb hown (ow (k := 0) rfl) (ow (k := 1) rfl) (ow (k := 2) rfl) rfl (by rw [hml]; exact hl.1) rfl dX3_init_1 (Nat.le_of_ble_eq_true rfl) (Nat.le_of_ble_eq_true rfl) ?_
  refine W.eq (g2 := F0 m 4 ls []) rfl ?_
  refine lv_aload_n hx hb dX3_init_4 rfl (lv_at hl 0 rfl) ?_
  refine lv_sipush (v := 1024) hx hb dX3_init_5 (by decide) ?_
  refine va_newa (ty := .long) (n := 1024) (N' := 1024) (a0 := (1024, .inr (.inl (fun _ => 0)))) hx hb (ow (k := 3) rfl) rfl hK hP hD hS hA (fun _ => rfl) (by decide) (by decide) (by decide) (Nat.le_of_ble_eq_true rfl) (Nat.le_of_ble_eq_true rfl) dX3_init_8 (fun q_1 cA_2 H hK hP hD hS => ?_)
  have hP : va_P (dC, dI) vwP [(h0, .inr (3, [.null, .null, .int 0, .null, .null])), (q_1, .inl (cA_2, 1024, .inr (.inl (fun _ => 0))))] H := hP
  have hD : va_D A [(h0, .inr (3, [.null, .null, .int 0, .null, .null])), (q_1, .inl (cA_2, 1024, .inr (.inl (fun _ => 0))))] := hD
  have hK : va_K (dC, dI) vwP [(cA_2, .long)] s := hK
  refine W.widen (k := 1) (n := 1024) (Nat.le_of_ble_eq_true rfl) (Nat.le_of_ble_eq_true rfl) ?_
  refine va_putF (D := (dC, dI)) (ci := 3) (v := .ref q_1) (ty := .array .long) (C := RX3) (T := TX3) (N := 5) hx hb hts mem_X3_init_0 tyX3 tyX3_ok nmX3 hown hK hP hD hS 0 rfl rfl 0 (by decide) (ow (k := 4) rfl) (fun _ h9 => h9) rfl hin rfl (by decide +kernel) rfl rfl (Nat.le_of_ble_eq_true rfl) dX3_init_10 (fun H locs hP hD hS => ?_)
  have hP : va_P (dC, dI) vwP [(h0, .inr (3, [.ref q_1, .null, .int 0, .null, .null])), (q_1, .inl (cA_2, 1024, .inr (.inl (fun _ => 0))))] H := hP
  have hD : va_D A [(h0, .inr (3, [.ref q_1, .null, .int 0, .null, .null])), (q_1, .inl (cA_2, 1024, .inr (.inl (fun _ => 0))))] := hD
  have hP := hP.sub (ws' := [(h0, .inr (3, [.ref q_1, .null, .int 0, .null, .null]))]) [0] rfl
  have hD := hD.sub (ws' := [(h0, .inr (3, [.ref q_1, .null, .int 0, .null, .null]))]) [0] (by decide) rfl
  have hK := hK.sub (tys' := []) [] rfl
  refine lv_aload_n hx hb dX3_init_13 rfl (lv_at hl 0 rfl) ?_
  refine lv_sipush (v := 2000) hx hb dX3_init_14 (by decide) ?_
  refine va_newa (ty := .int) (n := 2000) (N' := 2000) (a0 := (2000, .inl (fun _ => 0))) hx hb (ow (k := 5) rfl) rfl hK hP hD hS hA (fun _ => rfl) (by decide) (by decide) (by decide) (Nat.le_of_ble_eq_true rfl) (Nat.le_of_ble_eq_true rfl) dX3_init_17 (fun q_3 cA_4 H hK hP hD hS => ?_)
  have hP : va_P (dC, dI) vwP [(h0, .inr (3, [.ref q_1, .null, .int 0, .null, .null])), (q_3, .inl (cA_4, 2000, .inl (fun _ => 0)))] H := hP
  have hD : va_D A [(h0, .inr (3, [.ref q_1, .null, .int 0, .null, .null])), (q_3, .inl (cA_4, 2000, .inl (fun _ => 0)))] := hD
  have hK : va_K (dC, dI) vwP [(cA_4, .int)] s := hK
  refine W.widen (k := 2) (n := 3024) (Nat.le_of_ble_eq_true rfl) (Nat.le_of_ble_eq_true rfl) ?_
  refine va_putF (D := (dC, dI)) (ci := 3) (v := .ref q_3) (ty := .array .int) (C := RX3) (T := TX3) (N := 5) hx hb hts mem_X3_init_0 tyX3 tyX3_ok nmX3 hown hK hP hD hS 0 rfl rfl 1 (by decide) (ow (k := 6) rfl) (fun _ h9 => h9) rfl hin rfl (by decide +kernel) rfl rfl (Nat.le_of_ble_eq_true rfl) dX3_init_19 (fun H locs hP hD hS => ?_)
  have hP : va_P (dC, dI) vwP [(h0, .inr (3, [.ref q_1, .ref q_3, .int 0, .null, .null])), (q_3, .inl (cA_4, 2000, .inl (fun _ => 0)))] H := hP
  have hD : va_D A [(h0, .inr (3, [.ref q_1, .ref q_3, .int 0, .null, .null])), (q_3, .inl (cA_4, 2000, .inl (fun _ => 0)))] := hD
  have hP := hP.sub (ws' := [(h0, .inr (3, [.ref q_1, .ref q_3, .int 0, .null, .null]))]) [0] rfl
  have hD := hD.sub (ws' := [(h0, .inr (3, [.ref q_1, .ref q_3, .int 0, .null, .null]))]) [0] (by decide) rfl
  have hK := hK.sub (tys' := []) [] rfl
  refine lv_aload_n hx hb dX3_init_22 rfl (lv_at hl 0 rfl) ?_
  refine lv_iconst (v := 0) hx hb dX3_init_23 (by decide) ?_
  refine va_put (D := (dC, dI)) (ci := 3) (v := .int 0) (ty := .int) (C := RX3) (T := TX3) (N := 5) hx hb hts mem_X3_init_0 tyX3 tyX3_ok nmX3 hown hK hP hD hS 0 rfl rfl 2 (by decide) (ow (k := 7) rfl) (fun _ h9 => h9) rfl (by decide +kernel) rfl rfl (Nat.le_of_ble_eq_true rfl) dX3_init_24 (fun H locs hP hD hS => ?_)
  have hP : va_P (dC, dI) vwP [(h0, .inr (3, [.ref q_1, .ref q_3, .int 0, .null, .null]))] H := hP
  have hD : va_D A [(h0, .inr (3, [.ref q_1, .ref q_3, .int 0, .null, .null]))] := hD
  refine lv_aload_n hx hb dX3_init_27 rfl (lv_at hl 0 rfl) ?_
  refine lv_sipush (v := 300) hx hb dX3_init_28 (by decide) ?_
  refine va_newa (ty := .int) (n := 300) (N' := 300) (a0 := (300, .inl (fun _ => 0))) hx hb (ow (k := 5) rfl) rfl hK hP hD hS hA (fun _ => rfl) (by decide) (by decide) (by decide) (Nat.le_of_ble_eq_true rfl) (Nat.le_of_ble_eq_true rfl) dX3_init_31 (fun q_5 cA_6 H hK hP hD hS => ?_)
  have hP : va_P (dC, dI) vwP [(h0, .inr (3, [.ref q_1, .ref q_3, .int 0, .null, .null])), (q_5, .inl (cA_6, 300, .inl (fun _ => 0)))] H := hP
  have hD : va_D A [(h0, .inr (3, [.ref q_1, .ref q_3, .int 0, .null, .null])), (q_5, .inl (cA_6, 300, .inl (fun _ => 0)))] := hD
  have hK : va_K (dC, dI) vwP [(cA_6, .int)] s := hK
  refine W.widen (k := 3) (n := 3324) (Nat.le_of_ble_eq_true rfl) (Nat.le_of_ble_eq_true rfl) ?_
  refine va_putF (D := (dC, dI)) (ci := 3) (v := .ref q_5) (ty := .array .int) (C := RX3) (T := TX3) (N := 5) hx hb hts mem_X3_init_0 tyX3 tyX3_ok nmX3 hown hK hP hD hS 0 rfl rfl 3 (by decide) (ow (k := 8) rfl) (fun _ h9 => h9) rfl hin rfl (by decide +kernel) rfl rfl (Nat.le_of_ble_eq_true rfl) dX3_init_33 (fun H locs hP hD hS => ?_)
  have hP : va_P (dC, dI) vwP [(h0, .inr (3, [.ref q_1, .ref q_3, .int 0, .ref q_5, .null])), (q_5, .inl (cA_6, 300, .inl (fun _ => 0)))] H := hP
  have hD : va_D A [(h0, .inr (3, [.ref q_1, .ref q_3, .int 0, .ref q_5, .null])), (q_5, .inl (cA_6, 300, .inl (fun _ => 0)))] := hD
  have hP := hP.sub (ws' := [(h0, .inr (3, [.ref q_1, .ref q_3, .int 0, .ref q_5, .null]))]) [0] rfl
  have hD := hD.sub (ws' := [(h0, .inr (3, [.ref q_1, .ref q_3, .int 0, .ref q_5, .null]))]) [0] (by decide) rfl
  have hK := hK.sub (tys' := []) [] rfl
  refine lv_aload_n hx hb dX3_init_36 rfl (lv_at hl 0 rfl) ?_
  refine lv_sipush (v := 300) hx hb dX3_init_37 (by decide) ?_
  refine va_newa (ty := .int) (n := 300) (N' := 300) (a0 := (300, .inl (fun _ => 0))) hx hb (ow (k := 5) rfl) rfl hK hP hD hS hA (fun _ => rfl) (by decide) (by decide) (by decide) (Nat.le_of_ble_eq_true rfl) (Nat.le_of_ble_eq_true rfl) dX3_init_40 (fun q_7 cA_8 H hK hP hD hS => ?_)
  have hP : va_P (dC, dI) vwP [(h0, .inr (3, [.ref q_1, .ref q_3, .int 0, .ref q_5, .null])), (q_7, .inl (cA_8, 300, .inl (fun _ => 0)))] H := hP
  have hD : va_D A [(h0, .inr (3, [.ref q_1, .ref q_3, .int 0, .ref q_5, .null])), (q_7, .inl (cA_8, 300, .inl (fun _ => 0)))] := hD
  have hK : va_K (dC, dI) vwP [(cA_8, .int)] s := hK
  refine W.widen (k := 4) (n := 3624) (Nat.le_of_ble_eq_true rfl) (Nat.le_of_ble_eq_true rfl) ?_
  refine va_putF (D := (dC, dI)) (ci := 3) (v := .ref q_7) (ty := .array .int) (C := RX3) (T := TX3) (N := 5) hx hb hts mem_X3_init_0 tyX3 tyX3_ok nmX3 hown hK hP hD hS 0 rfl rfl 4 (by decide) (ow (k := 9) rfl) (fun _ h9 => h9) rfl hin rfl (by decide +kernel) rfl rfl (Nat.le_of_ble_eq_true rfl) dX3_init_42 (fun H locs hP hD hS => ?_)
  have hP : va_P (dC, dI) vwP [(h0, .inr (3, [.ref q_1, .ref q_3, .int 0, .ref q_5, .ref q_7])), (q_7, .inl (cA_8, 300, .inl (fun _ => 0)))] H := hP
  have hD : va_D A [(h0, .inr (3, [.ref q_1, .ref q_3, .int 0, .ref q_5, .ref q_7])), (q_7, .inl (cA_8, 300, .inl (fun _ => 0)))] := hD
  have hP := hP.sub (ws' := [(h0, .inr (3, [.ref q_1, .ref q_3, .int 0, .ref q_5, .ref q_7]))]) [0] rfl
  have hD := hD.sub (ws' := [(h0, .inr (3, [.ref q_1, .ref q_3, .int 0, .ref q_5, .ref q_7]))]) [0] (by decide) rfl
  have hK := hK.sub (tys' := []) [] rfl
  refine W.widen (k := 4) (n := 3624) (Nat.le_of_ble_eq_true rfl) (Nat.le_of_ble_eq_true rfl) ?_
  exact W.vret hx hb hr (fun t ht hW => ⟨⟨(), rfl, trivial, q_1, q_3, q_5, q_7, by rw [ht]; exact hP, va_K.moved hW.alike hK, hD⟩, hS.F ht⟩) hS.2.2 dX3_init_45
theorem dX4_init_0 : decode cX4_init 0 = .ok (.aload_n 0, 1) := by decide +kernel
theorem dX4_init_1 : decode cX4_init 1 = .ok (.invokespecial 3, 3) := by decide +kernel
theorem dX4_init_4 : decode cX4_init 4 = .ok (.aload_n 0, 1) := by decide +kernel
theorem dX4_init_5 : decode cX4_init 5 = .ok (.iconst 0, 1) := by decide +kernel
theorem dX4_init_6 : decode cX4_init 6 = .ok (.putfield 9, 3) := by decide +kernel
theorem dX4_init_9 : decode cX4_init 9 = .ok (.aload_n 0, 1) := by decide +kernel
theorem dX4_init_10 : decode cX4_init 10 = .ok (.sipush 4800, 3) := by decide +kernel
theorem dX4_init_13 : decode cX4_init 13 = .ok (.newarray .long, 2) := by decide +kernel
theorem dX4_init_15 : decode cX4_init 15 = .ok (.putfield 15, 3) := by decide +kernel
theorem dX4_init_18 : decode cX4_init 18 = .ok (.aload_n 0, 1) := by decide +kernel
theorem dX4_init_19 : decode cX4_init 19 = .ok (.sipush 4800, 3) := by decide +kernel
theorem dX4_init_22 : decode cX4_init 22 = .ok (.newarray .long, 2) := by decide +kernel
theorem dX4_init_24 : decode cX4_init 24 = .ok (.putfield 19, 3) := by decide +kernel
theorem dX4_init_27 : decode cX4_init 27 = .ok (.aload_n 0, 1) := by decide +kernel
theorem dX4_init_28 : decode cX4_init 28 = .ok (.sipush 4800, 3) := by decide +kernel
theorem dX4_init_31 : decode cX4_init 31 = .ok (.newarray .long, 2) := by decide +kernel
theorem dX4_init_33 : decode cX4_init 33 = .ok (.putfield 22, 3) := by decide +kernel
theorem dX4_init_36 : decode cX4_init 36 = .ok (.aload_n 0, 1) := by decide +kernel
theorem dX4_init_37 : decode cX4_init 37 = .ok (.sipush 4800, 3) := by decide +kernel
theorem dX4_init_40 : decode cX4_init 40 = .ok (.newarray .long, 2) := by decide +kernel
theorem dX4_init_42 : decode cX4_init 42 = .ok (.putfield 25, 3) := by decide +kernel
theorem dX4_init_45 : decode cX4_init 45 = .ok (.aload_n 0, 1) := by decide +kernel
theorem dX4_init_46 : decode cX4_init 46 = .ok (.sipush 4800, 3) := by decide +kernel
theorem dX4_init_49 : decode cX4_init 49 = .ok (.newarray .long, 2) := by decide +kernel
theorem dX4_init_51 : decode cX4_init 51 = .ok (.putfield 28, 3) := by decide +kernel
theorem dX4_init_54 : decode cX4_init 54 = .ok (.aload_n 0, 1) := by decide +kernel
theorem dX4_init_55 : decode cX4_init 55 = .ok (.sipush 4800, 3) := by decide +kernel
theorem dX4_init_58 : decode cX4_init 58 = .ok (.newarray .long, 2) := by decide +kernel
theorem dX4_init_60 : decode cX4_init 60 = .ok (.putfield 31, 3) := by decide +kernel
theorem dX4_init_63 : decode cX4_init 63 = .ok (.aload_n 0, 1) := by decide +kernel
theorem dX4_init_64 : decode cX4_init 64 = .ok (.bipush 16, 2) := by decide +kernel
theorem dX4_init_66 : decode cX4_init 66 = .ok (.newarray .long, 2) := by decide +kernel
theorem dX4_init_68 : decode cX4_init 68 = .ok (.putfield 34, 3) := by decide +kernel
theorem dX4_init_71 : decode cX4_init 71 = .ok (.return_, 1) := by decide +kernel
def o_X4_init : List Cond := [.methodLink RX4 3 objectInit, .instanceMethod objectInit, .code objectInit ⟨#[0xb1]⟩ 1 none, .fieldLink RX4 9 "SsaForge$Live" "words" "I", .arrayClass .long, .fieldLink RX4 15 "SsaForge$Live" "start" "[J", .fieldLink RX4 19 "SsaForge$Live" "finish" "[J", .fieldLink RX4 22 "SsaForge$Live" "sets" "[J", .fieldLink RX4 25 "SsaForge$Live" "uses" "[J", .fieldLink RX4 28 "SsaForge$Live" "phiSets" "[J", .fieldLink RX4 31 "SsaForge$Live" "phiUses" "[J", .fieldLink RX4 34 "SsaForge$Live" "now" "[J"]
def v_X4_init : List Cond := .code yX4_init cX4_init 1 none :: (o_X4_init ++ (wsX40 ++ []))
theorem mow_X4_init : ∀ w ∈ o_X4_init, w ∈ v_X4_init := fun _ h => List.mem_cons_of_mem _ (List.mem_append_left _ h)
theorem mem_X4_init_0 : ∀ w ∈ wsX40, w ∈ v_X4_init := fun _ h => List.mem_cons_of_mem _ (List.mem_append_right _ (List.mem_append_left _ h))
set_option maxRecDepth 20000 in
theorem gw_X4_init : v_X4_init.all goodWord = true := by decide +kernel
set_option maxHeartbeats 4000000 in
set_option maxRecDepth 100000 in
theorem c_X4_init (l : Launch) (dC : Nat → ClassId) (dI : Nat → Nat → Nat) (h0 : Nat) (sz : Nat) : Met l yX4_init v_X4_init ({ frames := 1, cells := 7, slots := 28816, locals := 12 }) (va_Pc [.ref h0] (fun U => U.heap.size = sz ∧ va_P (dC, dI) vwP [(h0, .inr (4, [.int 0, .null, .null, .null, .null, .null, .null, .null]))] U.heap ∧ va_K (dC, dI) vwP [] U ∧ va_D (fun _ => True) [(h0, .inr (4, [.int 0, .null, .null, .null, .null, .null, .null, .null]))])) (va_Qv (fun _ : Unit => True) (fun (_ : Unit) (t : State) => ∃ (q_1 : Nat) (q_3 : Nat) (q_5 : Nat) (q_7 : Nat) (q_9 : Nat) (q_11 : Nat) (q_13 : Nat), va_P (dC, dI) vwP [(h0, .inr (4, [.int 0, .ref q_1, .ref q_3, .ref q_5, .ref q_7, .ref q_9, .ref q_11, .ref q_13]))] t.heap ∧ va_K (dC, dI) vwP [] t ∧ va_D (va_A [(h0, .inr (4, [.int 0, .null, .null, .null, .null, .null, .null, .null]))] sz) [(h0, .inr (4, [.int 0, .ref q_1, .ref q_3, .ref q_5, .ref q_7, .ref q_9, .ref q_11, .ref q_13]))]) (va_A [(h0, .inr (4, [.int 0, .null, .null, .null, .null, .null, .null, .null]))] sz)) 7 28816 (va_A [(h0, .inr (4, [.int 0, .null, .null, .null, .null, .null, .null, .null]))] sz) := by
  refine Met.ofW (cc := cX4_init) (maxL := 1) (ret := none) (by decide) rfl ?_
  intro p e s m args below meth c s₁ B hml hv
  obtain ⟨rfl, hsz, hP, hK, hD0⟩ := hv
  have hx := B.exec
  have hb := B.bytes
  have hr := B.returns
  have hts := atoms_spec (ws := v_X4_init) B.pre
  have hown : s.vm.findClass RX4 = some m.cls := findClass_of_methodNamed B.named
  have hlocks := B.notSynchronized
  have ow : ∀ {k : Nat} {w : Cond}, o_X4_init[k]? = some w → w.before ([.ref h0] : List Value).toArray s = true := fun h => hts _ (mow_X4_init _ (List.mem_of_getElem? h))
  have hin : meth.name = "<init>" := (name_of_methodNamed B.named B.method).1
  subst hsz
  have hD := hD0.self (sz := s.heap.size)
  generalize hAe : va_A [(h0, .inr (4, [.int 0, .null, .null, .null, .null, .null, .null, .null]))] s.heap.size = A at hD ⊢
  have hA : ∀ q : Nat, s.heap.size ≤ q → A q := fun q h => by rw [← hAe]; exact Or.inr h
  have hS : va_S A s.heap s.heap [] := va_S.rf
  have hP : va_P (dC, dI) vwP [(h0, .inr (4, [.int 0, .null, .null, .null, .null, .null, .null, .null]))] s.heap := hP
  have hl := lv_entry ([.ref h0]) (n := 1) (Nat.le_of_ble_eq_true rfl)
  rw [lg_entry_eq]
  generalize (lg_sl ([.ref h0]) ++ List.replicate (1 - (lg_sl ([.ref h0])).length) Slot.unset).toArray = ls at hl ⊢
  have hl : lv_has ls 1 [(0, .ref h0)] := hl
  obtain ⟨H, hH⟩ : ∃ H, H = s.heap := ⟨_, rfl⟩
  rw [← hH] at hP
  have hS : va_S A s.heap H [] := by rw [hH]; exact hS
  rw [← hH]
  refine lv_aload_n hx hb dX4_init_0 rfl (lv_at hl 0 rfl) ?_
  refine W.objInit hx hb hown (ow (k := 0) rfl) (ow (k := 1) rfl) (ow (k := 2) rfl) rfl (by rw [hml]; exact hl.1) rfl dX4_init_1 (Nat.le_of_ble_eq_true rfl) (Nat.le_of_ble_eq_true rfl) ?_
  refine W.eq (g2 := F0 m 4 ls []) rfl ?_
  refine lv_aload_n hx hb dX4_init_4 rfl (lv_at hl 0 rfl) ?_
  refine lv_iconst (v := 0) hx hb dX4_init_5 (by decide) ?_
  refine va_put (D := (dC, dI)) (ci := 4) (v := .int 0) (ty := .int) (C := RX4) (T := TX4) (N := 8) hx hb hts mem_X4_init_0 tyX4 tyX4_ok nmX4 hown hK hP hD hS 0 rfl rfl 0 (by decide) (ow (k := 3) rfl) (fun _ h9 => h9) rfl (by decide +kernel) rfl rfl (Nat.le_of_ble_eq_true rfl) dX4_init_6 (fun H locs hP hD hS => ?_)
  have hP : va_P (dC, dI) vwP [(h0, .inr (4, [.int 0, .null, .null, .null, .null, .null, .null, .null]))] H := hP
  have hD : va_D A [(h0, .inr (4, [.int 0, .null, .null, .null, .null, .null, .null, .null]))] := hD
  refine lv_aload_n hx hb dX4_init_9 rfl (lv_at hl 0 rfl) ?_
  refine lv_sipush (v := 4800) hx hb dX4_init_10 (by decide) ?_
  refine va_newa (ty := .long) (n := 4800) (N' := 4800) (a0 := (4800, .inr (.inl (fun _ => 0)))) hx hb (ow (k := 4) rfl) rfl hK hP hD hS hA (fun _ => rfl) (by decide) (by decide) (by decide) (Nat.le_of_ble_eq_true rfl) (Nat.le_of_ble_eq_true rfl) dX4_init_13 (fun q_1 cA_2 H hK hP hD hS => ?_)
  have hP : va_P (dC, dI) vwP [(h0, .inr (4, [.int 0, .null, .null, .null, .null, .null, .null, .null])), (q_1, .inl (cA_2, 4800, .inr (.inl (fun _ => 0))))] H := hP
  have hD : va_D A [(h0, .inr (4, [.int 0, .null, .null, .null, .null, .null, .null, .null])), (q_1, .inl (cA_2, 4800, .inr (.inl (fun _ => 0))))] := hD
  have hK : va_K (dC, dI) vwP [(cA_2, .long)] s := hK
  refine W.widen (k := 1) (n := 4800) (Nat.le_of_ble_eq_true rfl) (Nat.le_of_ble_eq_true rfl) ?_
  refine va_putF (D := (dC, dI)) (ci := 4) (v := .ref q_1) (ty := .array .long) (C := RX4) (T := TX4) (N := 8) hx hb hts mem_X4_init_0 tyX4 tyX4_ok nmX4 hown hK hP hD hS 0 rfl rfl 1 (by decide) (ow (k := 5) rfl) (fun _ h9 => h9) rfl hin rfl (by decide +kernel) rfl rfl (Nat.le_of_ble_eq_true rfl) dX4_init_15 (fun H locs hP hD hS => ?_)
  have hP : va_P (dC, dI) vwP [(h0, .inr (4, [.int 0, .ref q_1, .null, .null, .null, .null, .null, .null])), (q_1, .inl (cA_2, 4800, .inr (.inl (fun _ => 0))))] H := hP
  have hD : va_D A [(h0, .inr (4, [.int 0, .ref q_1, .null, .null, .null, .null, .null, .null])), (q_1, .inl (cA_2, 4800, .inr (.inl (fun _ => 0))))] := hD
  have hP := hP.sub (ws' := [(h0, .inr (4, [.int 0, .ref q_1, .null, .null, .null, .null, .null, .null]))]) [0] rfl
  have hD := hD.sub (ws' := [(h0, .inr (4, [.int 0, .ref q_1, .null, .null, .null, .null, .null, .null]))]) [0] (by decide) rfl
  have hK := hK.sub (tys' := []) [] rfl
  refine lv_aload_n hx hb dX4_init_18 rfl (lv_at hl 0 rfl) ?_
  refine lv_sipush (v := 4800) hx hb dX4_init_19 (by decide) ?_
  refine va_newa (ty := .long) (n := 4800) (N' := 4800) (a0 := (4800, .inr (.inl (fun _ => 0)))) hx hb (ow (k := 4) rfl) rfl hK hP hD hS hA (fun _ => rfl) (by decide) (by decide) (by decide) (Nat.le_of_ble_eq_true rfl) (Nat.le_of_ble_eq_true rfl) dX4_init_22 (fun q_3 cA_4 H hK hP hD hS => ?_)
  have hP : va_P (dC, dI) vwP [(h0, .inr (4, [.int 0, .ref q_1, .null, .null, .null, .null, .null, .null])), (q_3, .inl (cA_4, 4800, .inr (.inl (fun _ => 0))))] H := hP
  have hD : va_D A [(h0, .inr (4, [.int 0, .ref q_1, .null, .null, .null, .null, .null, .null])), (q_3, .inl (cA_4, 4800, .inr (.inl (fun _ => 0))))] := hD
  have hK : va_K (dC, dI) vwP [(cA_4, .long)] s := hK
  refine W.widen (k := 2) (n := 9600) (Nat.le_of_ble_eq_true rfl) (Nat.le_of_ble_eq_true rfl) ?_
  refine va_putF (D := (dC, dI)) (ci := 4) (v := .ref q_3) (ty := .array .long) (C := RX4) (T := TX4) (N := 8) hx hb hts mem_X4_init_0 tyX4 tyX4_ok nmX4 hown hK hP hD hS 0 rfl rfl 2 (by decide) (ow (k := 6) rfl) (fun _ h9 => h9) rfl hin rfl (by decide +kernel) rfl rfl (Nat.le_of_ble_eq_true rfl) dX4_init_24 (fun H locs hP hD hS => ?_)
  have hP : va_P (dC, dI) vwP [(h0, .inr (4, [.int 0, .ref q_1, .ref q_3, .null, .null, .null, .null, .null])), (q_3, .inl (cA_4, 4800, .inr (.inl (fun _ => 0))))] H := hP
  have hD : va_D A [(h0, .inr (4, [.int 0, .ref q_1, .ref q_3, .null, .null, .null, .null, .null])), (q_3, .inl (cA_4, 4800, .inr (.inl (fun _ => 0))))] := hD
  have hP := hP.sub (ws' := [(h0, .inr (4, [.int 0, .ref q_1, .ref q_3, .null, .null, .null, .null, .null]))]) [0] rfl
  have hD := hD.sub (ws' := [(h0, .inr (4, [.int 0, .ref q_1, .ref q_3, .null, .null, .null, .null, .null]))]) [0] (by decide) rfl
  have hK := hK.sub (tys' := []) [] rfl
  refine lv_aload_n hx hb dX4_init_27 rfl (lv_at hl 0 rfl) ?_
  refine lv_sipush (v := 4800) hx hb dX4_init_28 (by decide) ?_
  refine va_newa (ty := .long) (n := 4800) (N' := 4800) (a0 := (4800, .inr (.inl (fun _ => 0)))) hx hb (ow (k := 4) rfl) rfl hK hP hD hS hA (fun _ => rfl) (by decide) (by decide) (by decide) (Nat.le_of_ble_eq_true rfl) (Nat.le_of_ble_eq_true rfl) dX4_init_31 (fun q_5 cA_6 H hK hP hD hS => ?_)
  have hP : va_P (dC, dI) vwP [(h0, .inr (4, [.int 0, .ref q_1, .ref q_3, .null, .null, .null, .null, .null])), (q_5, .inl (cA_6, 4800, .inr (.inl (fun _ => 0))))] H := hP
  have hD : va_D A [(h0, .inr (4, [.int 0, .ref q_1, .ref q_3, .null, .null, .null, .null, .null])), (q_5, .inl (cA_6, 4800, .inr (.inl (fun _ => 0))))] := hD
  have hK : va_K (dC, dI) vwP [(cA_6, .long)] s := hK
  refine W.widen (k := 3) (n := 14400) (Nat.le_of_ble_eq_true rfl) (Nat.le_of_ble_eq_true rfl) ?_
  refine va_putF (D := (dC, dI)) (ci := 4) (v := .ref q_5) (ty := .array .long) (C := RX4) (T := TX4) (N := 8) hx hb hts mem_X4_init_0 tyX4 tyX4_ok nmX4 hown hK hP hD hS 0 rfl rfl 3 (by decide) (ow (k := 7) rfl) (fun _ h9 => h9) rfl hin rfl (by decide +kernel) rfl rfl (Nat.le_of_ble_eq_true rfl) dX4_init_33 (fun H locs hP hD hS => ?_)
  have hP : va_P (dC, dI) vwP [(h0, .inr (4, [.int 0, .ref q_1, .ref q_3, .ref q_5, .null, .null, .null, .null])), (q_5, .inl (cA_6, 4800, .inr (.inl (fun _ => 0))))] H := hP
  have hD : va_D A [(h0, .inr (4, [.int 0, .ref q_1, .ref q_3, .ref q_5, .null, .null, .null, .null])), (q_5, .inl (cA_6, 4800, .inr (.inl (fun _ => 0))))] := hD
  have hP := hP.sub (ws' := [(h0, .inr (4, [.int 0, .ref q_1, .ref q_3, .ref q_5, .null, .null, .null, .null]))]) [0] rfl
  have hD := hD.sub (ws' := [(h0, .inr (4, [.int 0, .ref q_1, .ref q_3, .ref q_5, .null, .null, .null, .null]))]) [0] (by decide) rfl
  have hK := hK.sub (tys' := []) [] rfl
  refine lv_aload_n hx hb dX4_init_36 rfl (lv_at hl 0 rfl) ?_
  refine lv_sipush (v := 4800) hx hb dX4_init_37 (by decide) ?_
  refine va_newa (ty := .long) (n := 4800) (N' := 4800) (a0 := (4800, .inr (.inl (fun _ => 0)))) hx hb (ow (k := 4) rfl) rfl hK hP hD hS hA (fun _ => rfl) (by decide) (by decide) (by decide) (Nat.le_of_ble_eq_true rfl) (Nat.le_of_ble_eq_true rfl) dX4_init_40 (fun q_7 cA_8 H hK hP hD hS => ?_)
  have hP : va_P (dC, dI) vwP [(h0, .inr (4, [.int 0, .ref q_1, .ref q_3, .ref q_5, .null, .null, .null, .null])), (q_7, .inl (cA_8, 4800, .inr (.inl (fun _ => 0))))] H := hP
  have hD : va_D A [(h0, .inr (4, [.int 0, .ref q_1, .ref q_3, .ref q_5, .null, .null, .null, .null])), (q_7, .inl (cA_8, 4800, .inr (.inl (fun _ => 0))))] := hD
  have hK : va_K (dC, dI) vwP [(cA_8, .long)] s := hK
  refine W.widen (k := 4) (n := 19200) (Nat.le_of_ble_eq_true rfl) (Nat.le_of_ble_eq_true rfl) ?_
  refine va_putF (D := (dC, dI)) (ci := 4) (v := .ref q_7) (ty := .array .long) (C := RX4) (T := TX4) (N := 8) hx hb hts mem_X4_init_0 tyX4 tyX4_ok nmX4 hown hK hP hD hS 0 rfl rfl 4 (by decide) (ow (k := 8) rfl) (fun _ h9 => h9) rfl hin rfl (by decide +kernel) rfl rfl (Nat.le_of_ble_eq_true rfl) dX4_init_42 (fun H locs hP hD hS => ?_)
  have hP : va_P (dC, dI) vwP [(h0, .inr (4, [.int 0, .ref q_1, .ref q_3, .ref q_5, .ref q_7, .null, .null, .null])), (q_7, .inl (cA_8, 4800, .inr (.inl (fun _ => 0))))] H := hP
  have hD : va_D A [(h0, .inr (4, [.int 0, .ref q_1, .ref q_3, .ref q_5, .ref q_7, .null, .null, .null])), (q_7, .inl (cA_8, 4800, .inr (.inl (fun _ => 0))))] := hD
  have hP := hP.sub (ws' := [(h0, .inr (4, [.int 0, .ref q_1, .ref q_3, .ref q_5, .ref q_7, .null, .null, .null]))]) [0] rfl
  have hD := hD.sub (ws' := [(h0, .inr (4, [.int 0, .ref q_1, .ref q_3, .ref q_5, .ref q_7, .null, .null, .null]))]) [0] (by decide) rfl
  have hK := hK.sub (tys' := []) [] rfl
  refine lv_aload_n hx hb dX4_init_45 rfl (lv_at hl 0 rfl) ?_
  refine lv_sipush (v := 4800) hx hb dX4_init_46 (by decide) ?_
  refine va_newa (ty := .long) (n := 4800) (N' := 4800) (a0 := (4800, .inr (.inl (fun _ => 0)))) hx hb (ow (k := 4) rfl) rfl hK hP hD hS hA (fun _ => rfl) (by decide) (by decide) (by decide) (Nat.le_of_ble_eq_true rfl) (Nat.le_of_ble_eq_true rfl) dX4_init_49 (fun q_9 cA_10 H hK hP hD hS => ?_)
  have hP : va_P (dC, dI) vwP [(h0, .inr (4, [.int 0, .ref q_1, .ref q_3, .ref q_5, .ref q_7, .null, .null, .null])), (q_9, .inl (cA_10, 4800, .inr (.inl (fun _ => 0))))] H := hP
  have hD : va_D A [(h0, .inr (4, [.int 0, .ref q_1, .ref q_3, .ref q_5, .ref q_7, .null, .null, .null])), (q_9, .inl (cA_10, 4800, .inr (.inl (fun _ => 0))))] := hD
  have hK : va_K (dC, dI) vwP [(cA_10, .long)] s := hK
  refine W.widen (k := 5) (n := 24000) (Nat.le_of_ble_eq_true rfl) (Nat.le_of_ble_eq_true rfl) ?_
  refine va_putF (D := (dC, dI)) (ci := 4) (v := .ref q_9) (ty := .array .long) (C := RX4) (T := TX4) (N := 8) hx hb hts mem_X4_init_0 tyX4 tyX4_ok nmX4 hown hK hP hD hS 0 rfl rfl 5 (by decide) (ow (k := 9) rfl) (fun _ h9 => h9) rfl hin rfl (by decide +kernel) rfl rfl (Nat.le_of_ble_eq_true rfl) dX4_init_51 (fun H locs hP hD hS => ?_)
  have hP : va_P (dC, dI) vwP [(h0, .inr (4, [.int 0, .ref q_1, .ref q_3, .ref q_5, .ref q_7, .ref q_9, .null, .null])), (q_9, .inl (cA_10, 4800, .inr (.inl (fun _ => 0))))] H := hP
  have hD : va_D A [(h0, .inr (4, [.int 0, .ref q_1, .ref q_3, .ref q_5, .ref q_7, .ref q_9, .null, .null])), (q_9, .inl (cA_10, 4800, .inr (.inl (fun _ => 0))))] := hD
  have hP := hP.sub (ws' := [(h0, .inr (4, [.int 0, .ref q_1, .ref q_3, .ref q_5, .ref q_7, .ref q_9, .null, .null]))]) [0] rfl
  have hD := hD.sub (ws' := [(h0, .inr (4, [.int 0, .ref q_1, .ref q_3, .ref q_5, .ref q_7, .ref q_9, .null, .null]))]) [0] (by decide) rfl
  have hK := hK.sub (tys' := []) [] rfl
  refine lv_aload_n hx hb dX4_init_54 rfl (lv_at hl 0 rfl) ?_
  refine lv_sipush (v := 4800) hx hb dX4_init_55 (by decide) ?_
  refine va_newa (ty := .long) (n := 4800) (N' := 4800) (a0 := (4800, .inr (.inl (fun _ => 0)))) hx hb (ow (k := 4) rfl) rfl hK hP hD hS hA (fun _ => rfl) (by decide) (by decide) (by decide) (Nat.le_of_ble_eq_true rfl) (Nat.le_of_ble_eq_true rfl) dX4_init_58 (fun q_11 cA_12 H hK hP hD hS => ?_)
  have hP : va_P (dC, dI) vwP [(h0, .inr (4, [.int 0, .ref q_1, .ref q_3, .ref q_5, .ref q_7, .ref q_9, .null, .null])), (q_11, .inl (cA_12, 4800, .inr (.inl (fun _ => 0))))] H := hP
  have hD : va_D A [(h0, .inr (4, [.int 0, .ref q_1, .ref q_3, .ref q_5, .ref q_7, .ref q_9, .null, .null])), (q_11, .inl (cA_12, 4800, .inr (.inl (fun _ => 0))))] := hD
  have hK : va_K (dC, dI) vwP [(cA_12, .long)] s := hK
  refine W.widen (k := 6) (n := 28800) (Nat.le_of_ble_eq_true rfl) (Nat.le_of_ble_eq_true rfl) ?_
  refine va_putF (D := (dC, dI)) (ci := 4) (v := .ref q_11) (ty := .array .long) (C := RX4) (T := TX4) (N := 8) hx hb hts mem_X4_init_0 tyX4 tyX4_ok nmX4 hown hK hP hD hS 0 rfl rfl 6 (by decide) (ow (k := 10) rfl) (fun _ h9 => h9) rfl hin rfl (by decide +kernel) rfl rfl (Nat.le_of_ble_eq_true rfl) dX4_init_60 (fun H locs hP hD hS => ?_)
  have hP : va_P (dC, dI) vwP [(h0, .inr (4, [.int 0, .ref q_1, .ref q_3, .ref q_5, .ref q_7, .ref q_9, .ref q_11, .null])), (q_11, .inl (cA_12, 4800, .inr (.inl (fun _ => 0))))] H := hP
  have hD : va_D A [(h0, .inr (4, [.int 0, .ref q_1, .ref q_3, .ref q_5, .ref q_7, .ref q_9, .ref q_11, .null])), (q_11, .inl (cA_12, 4800, .inr (.inl (fun _ => 0))))] := hD
  have hP := hP.sub (ws' := [(h0, .inr (4, [.int 0, .ref q_1, .ref q_3, .ref q_5, .ref q_7, .ref q_9, .ref q_11, .null]))]) [0] rfl
  have hD := hD.sub (ws' := [(h0, .inr (4, [.int 0, .ref q_1, .ref q_3, .ref q_5, .ref q_7, .ref q_9, .ref q_11, .null]))]) [0] (by decide) rfl
  have hK := hK.sub (tys' := []) [] rfl
  refine lv_aload_n hx hb dX4_init_63 rfl (lv_at hl 0 rfl) ?_
  refine lv_bipush (v := 16) hx hb dX4_init_64 (by decide) ?_
  refine va_newa (ty := .long) (n := 16) (N' := 16) (a0 := (16, .inr (.inl (fun _ => 0)))) hx hb (ow (k := 4) rfl) rfl hK hP hD hS hA (fun _ => rfl) (by decide) (by decide) (by decide) (Nat.le_of_ble_eq_true rfl) (Nat.le_of_ble_eq_true rfl) dX4_init_66 (fun q_13 cA_14 H hK hP hD hS => ?_)
  have hP : va_P (dC, dI) vwP [(h0, .inr (4, [.int 0, .ref q_1, .ref q_3, .ref q_5, .ref q_7, .ref q_9, .ref q_11, .null])), (q_13, .inl (cA_14, 16, .inr (.inl (fun _ => 0))))] H := hP
  have hD : va_D A [(h0, .inr (4, [.int 0, .ref q_1, .ref q_3, .ref q_5, .ref q_7, .ref q_9, .ref q_11, .null])), (q_13, .inl (cA_14, 16, .inr (.inl (fun _ => 0))))] := hD
  have hK : va_K (dC, dI) vwP [(cA_14, .long)] s := hK
  refine W.widen (k := 7) (n := 28816) (Nat.le_of_ble_eq_true rfl) (Nat.le_of_ble_eq_true rfl) ?_
  refine va_putF (D := (dC, dI)) (ci := 4) (v := .ref q_13) (ty := .array .long) (C := RX4) (T := TX4) (N := 8) hx hb hts mem_X4_init_0 tyX4 tyX4_ok nmX4 hown hK hP hD hS 0 rfl rfl 7 (by decide) (ow (k := 11) rfl) (fun _ h9 => h9) rfl hin rfl (by decide +kernel) rfl rfl (Nat.le_of_ble_eq_true rfl) dX4_init_68 (fun H locs hP hD hS => ?_)
  have hP : va_P (dC, dI) vwP [(h0, .inr (4, [.int 0, .ref q_1, .ref q_3, .ref q_5, .ref q_7, .ref q_9, .ref q_11, .ref q_13])), (q_13, .inl (cA_14, 16, .inr (.inl (fun _ => 0))))] H := hP
  have hD : va_D A [(h0, .inr (4, [.int 0, .ref q_1, .ref q_3, .ref q_5, .ref q_7, .ref q_9, .ref q_11, .ref q_13])), (q_13, .inl (cA_14, 16, .inr (.inl (fun _ => 0))))] := hD
  have hP := hP.sub (ws' := [(h0, .inr (4, [.int 0, .ref q_1, .ref q_3, .ref q_5, .ref q_7, .ref q_9, .ref q_11, .ref q_13]))]) [0] rfl
  have hD := hD.sub (ws' := [(h0, .inr (4, [.int 0, .ref q_1, .ref q_3, .ref q_5, .ref q_7, .ref q_9, .ref q_11, .ref q_13]))]) [0] (by decide) rfl
  have hK := hK.sub (tys' := []) [] rfl
  refine W.widen (k := 7) (n := 28816) (Nat.le_of_ble_eq_true rfl) (Nat.le_of_ble_eq_true rfl) ?_
  exact W.vret hx hb hr (fun t ht hW => ⟨⟨(), rfl, trivial, q_1, q_3, q_5, q_7, q_9, q_11, q_13, by rw [ht]; exact hP, va_K.moved hW.alike hK, hD⟩, hS.F ht⟩) hS.2.2 dX4_init_71
theorem dX8_init_0 : decode cX8_init 0 = .ok (.aload_n 0, 1) := by decide +kernel
theorem dX8_init_1 : decode cX8_init 1 = .ok (.invokespecial 3, 3) := by decide +kernel
theorem dX8_init_4 : decode cX8_init 4 = .ok (.aload_n 0, 1) := by decide +kernel
theorem dX8_init_5 : decode cX8_init 5 = .ok (.sipush 4800, 3) := by decide +kernel
theorem dX8_init_8 : decode cX8_init 8 = .ok (.newarray .long, 2) := by decide +kernel
theorem dX8_init_10 : decode cX8_init 10 = .ok (.putfield 9, 3) := by decide +kernel
theorem dX8_init_13 : decode cX8_init 13 = .ok (.aload_n 0, 1) := by decide +kernel
theorem dX8_init_14 : decode cX8_init 14 = .ok (.sipush 1024, 3) := by decide +kernel
theorem dX8_init_17 : decode cX8_init 17 = .ok (.newarray .int, 2) := by decide +kernel
theorem dX8_init_19 : decode cX8_init 19 = .ok (.putfield 15, 3) := by decide +kernel
theorem dX8_init_22 : decode cX8_init 22 = .ok (.aload_n 0, 1) := by decide +kernel
theorem dX8_init_23 : decode cX8_init 23 = .ok (.sipush 300, 3) := by decide +kernel
theorem dX8_init_26 : decode cX8_init 26 = .ok (.newarray .int, 2) := by decide +kernel
theorem dX8_init_28 : decode cX8_init 28 = .ok (.putfield 19, 3) := by decide +kernel
theorem dX8_init_31 : decode cX8_init 31 = .ok (.aload_n 0, 1) := by decide +kernel
theorem dX8_init_32 : decode cX8_init 32 = .ok (.sipush 300, 3) := by decide +kernel
theorem dX8_init_35 : decode cX8_init 35 = .ok (.newarray .int, 2) := by decide +kernel
theorem dX8_init_37 : decode cX8_init 37 = .ok (.putfield 22, 3) := by decide +kernel
theorem dX8_init_40 : decode cX8_init 40 = .ok (.aload_n 0, 1) := by decide +kernel
theorem dX8_init_41 : decode cX8_init 41 = .ok (.sipush 1000, 3) := by decide +kernel
theorem dX8_init_44 : decode cX8_init 44 = .ok (.newarray .int, 2) := by decide +kernel
theorem dX8_init_46 : decode cX8_init 46 = .ok (.putfield 25, 3) := by decide +kernel
theorem dX8_init_49 : decode cX8_init 49 = .ok (.aload_n 0, 1) := by decide +kernel
theorem dX8_init_50 : decode cX8_init 50 = .ok (.sipush 1000, 3) := by decide +kernel
theorem dX8_init_53 : decode cX8_init 53 = .ok (.newarray .int, 2) := by decide +kernel
theorem dX8_init_55 : decode cX8_init 55 = .ok (.putfield 28, 3) := by decide +kernel
theorem dX8_init_58 : decode cX8_init 58 = .ok (.aload_n 0, 1) := by decide +kernel
theorem dX8_init_59 : decode cX8_init 59 = .ok (.iconst 0, 1) := by decide +kernel
theorem dX8_init_60 : decode cX8_init 60 = .ok (.putfield 31, 3) := by decide +kernel
theorem dX8_init_63 : decode cX8_init 63 = .ok (.aload_n 0, 1) := by decide +kernel
theorem dX8_init_64 : decode cX8_init 64 = .ok (.iconst 0, 1) := by decide +kernel
theorem dX8_init_65 : decode cX8_init 65 = .ok (.putfield 35, 3) := by decide +kernel
theorem dX8_init_68 : decode cX8_init 68 = .ok (.return_, 1) := by decide +kernel
def o_X8_init : List Cond := [.methodLink RX8 3 objectInit, .instanceMethod objectInit, .code objectInit ⟨#[0xb1]⟩ 1 none, .arrayClass .long, .fieldLink RX8 9 "SsaForge$SsaMaker" "wanted" "[J", .arrayClass .int, .fieldLink RX8 15 "SsaForge$SsaMaker" "latest" "[I", .fieldLink RX8 19 "SsaForge$SsaMaker" "path" "[I", .fieldLink RX8 22 "SsaForge$SsaMaker" "pathMark" "[I", .fieldLink RX8 25 "SsaForge$SsaMaker" "hiddenRegister" "[I", .fieldLink RX8 28 "SsaForge$SsaMaker" "hiddenLatest" "[I", .fieldLink RX8 31 "SsaForge$SsaMaker" "hidden" "I", .fieldLink RX8 35 "SsaForge$SsaMaker" "given" "I"]
def v_X8_init : List Cond := .code yX8_init cX8_init 1 none :: (o_X8_init ++ (wsX80 ++ []))
theorem mow_X8_init : ∀ w ∈ o_X8_init, w ∈ v_X8_init := fun _ h => List.mem_cons_of_mem _ (List.mem_append_left _ h)
theorem mem_X8_init_0 : ∀ w ∈ wsX80, w ∈ v_X8_init := fun _ h => List.mem_cons_of_mem _ (List.mem_append_right _ (List.mem_append_left _ h))
set_option maxRecDepth 20000 in
theorem gw_X8_init : v_X8_init.all goodWord = true := by decide +kernel
set_option maxHeartbeats 4000000 in
set_option maxRecDepth 100000 in
theorem c_X8_init (l : Launch) (dC : Nat → ClassId) (dI : Nat → Nat → Nat) (h0 : Nat) (sz : Nat) : Met l yX8_init v_X8_init ({ frames := 1, cells := 6, slots := 8424, locals := 12 }) (va_Pc [.ref h0] (fun U => U.heap.size = sz ∧ va_P (dC, dI) vwP [(h0, .inr (8, [.null, .null, .null, .null, .null, .null, .int 0, .int 0]))] U.heap ∧ va_K (dC, dI) vwP [] U ∧ va_D (fun _ => True) [(h0, .inr (8, [.null, .null, .null, .null, .null, .null, .int 0, .int 0]))])) (va_Qv (fun _ : Unit => True) (fun (_ : Unit) (t : State) => ∃ (q_1 : Nat) (q_3 : Nat) (q_5 : Nat) (q_7 : Nat) (q_9 : Nat) (q_11 : Nat), va_P (dC, dI) vwP [(h0, .inr (8, [.ref q_1, .ref q_3, .ref q_5, .ref q_7, .ref q_9, .ref q_11, .int 0, .int 0]))] t.heap ∧ va_K (dC, dI) vwP [] t ∧ va_D (va_A [(h0, .inr (8, [.null, .null, .null, .null, .null, .null, .int 0, .int 0]))] sz) [(h0, .inr (8, [.ref q_1, .ref q_3, .ref q_5, .ref q_7, .ref q_9, .ref q_11, .int 0, .int 0]))]) (va_A [(h0, .inr (8, [.null, .null, .null, .null, .null, .null, .int 0, .int 0]))] sz)) 6 8424 (va_A [(h0, .inr (8, [.null, .null, .null, .null, .null, .null, .int 0, .int 0]))] sz) := by
  refine Met.ofW (cc := cX8_init) (maxL := 1) (ret := none) (by decide) rfl ?_
  intro p e s m args below meth c s₁ B hml hv
  obtain ⟨rfl, hsz, hP, hK, hD0⟩ := hv
  have hx := B.exec
  have hb := B.bytes
  have hr := B.returns
  have hts := atoms_spec (ws := v_X8_init) B.pre
  have hown : s.vm.findClass RX8 = some m.cls := findClass_of_methodNamed B.named
  have hlocks := B.notSynchronized
  have ow : ∀ {k : Nat} {w : Cond}, o_X8_init[k]? = some w → w.before ([.ref h0] : List Value).toArray s = true := fun h => hts _ (mow_X8_init _ (List.mem_of_getElem? h))
  have hin : meth.name = "<init>" := (name_of_methodNamed B.named B.method).1
  subst hsz
  have hD := hD0.self (sz := s.heap.size)
  generalize hAe : va_A [(h0, .inr (8, [.null, .null, .null, .null, .null, .null, .int 0, .int 0]))] s.heap.size = A at hD ⊢
  have hA : ∀ q : Nat, s.heap.size ≤ q → A q := fun q h => by rw [← hAe]; exact Or.inr h
  have hS : va_S A s.heap s.heap [] := va_S.rf
  have hP : va_P (dC, dI) vwP [(h0, .inr (8, [.null, .null, .null, .null, .null, .null, .int 0, .int 0]))] s.heap := hP
  have hl := lv_entry ([.ref h0]) (n := 1) (Nat.le_of_ble_eq_true rfl)
  rw [lg_entry_eq]
  generalize (lg_sl ([.ref h0]) ++ List.replicate (1 - (lg_sl ([.ref h0])).length) Slot.unset).toArray = ls at hl ⊢
  have hl : lv_has ls 1 [(0, .ref h0)] := hl
  obtain ⟨H, hH⟩ : ∃ H, H = s.heap := ⟨_, rfl⟩
  rw [← hH] at hP
  have hS : va_S A s.heap H [] := by rw [hH]; exact hS
  rw [← hH]
  refine lv_aload_n hx hb dX8_init_0 rfl (lv_at hl 0 rfl) ?_
  refine W.objInit hx hb hown (ow (k := 0) rfl) (ow (k := 1) rfl) (ow (k := 2) rfl) rfl (by rw [hml]; exact hl.1) rfl dX8_init_1 (Nat.le_of_ble_eq_true rfl) (Nat.le_of_ble_eq_true rfl) ?_
  refine W.eq (g2 := F0 m 4 ls []) rfl ?_
  refine lv_aload_n hx hb dX8_init_4 rfl (lv_at hl 0 rfl) ?_
  refine lv_sipush (v := 4800) hx hb dX8_init_5 (by decide) ?_
  refine va_newa (ty := .long) (n := 4800) (N' := 4800) (a0 := (4800, .inr (.inl (fun _ => 0)))) hx hb (ow (k := 3) rfl) rfl hK hP hD hS hA (fun _ => rfl) (by decide) (by decide) (by decide) (Nat.le_of_ble_eq_true rfl) (Nat.le_of_ble_eq_true rfl) dX8_init_8 (fun q_1 cA_2 H hK hP hD hS => ?_)
  have hP : va_P (dC, dI) vwP [(h0, .inr (8, [.null, .null, .null, .null, .null, .null, .int 0, .int 0])), (q_1, .inl (cA_2, 4800, .inr (.inl (fun _ => 0))))] H := hP
  have hD : va_D A [(h0, .inr (8, [.null, .null, .null, .null, .null, .null, .int 0, .int 0])), (q_1, .inl (cA_2, 4800, .inr (.inl (fun _ => 0))))] := hD
  have hK : va_K (dC, dI) vwP [(cA_2, .long)] s := hK
  refine W.widen (k := 1) (n := 4800) (Nat.le_of_ble_eq_true rfl) (Nat.le_of_ble_eq_true rfl) ?_
  refine va_putF (D := (dC, dI)) (ci := 8) (v := .ref q_1) (ty := .array .long) (C := RX8) (T := TX8) (N := 8) hx hb hts mem_X8_init_0 tyX8 tyX8_ok nmX8 hown hK hP hD hS 0 rfl rfl 0 (by decide) (ow (k := 4) rfl) (fun _ h9 => h9) rfl hin rfl (by decide +kernel) rfl rfl (Nat.le_of_ble_eq_true rfl) dX8_init_10 (fun H locs hP hD hS => ?_)
  have hP : va_P (dC, dI) vwP [(h0, .inr (8, [.ref q_1, .null, .null, .null, .null, .null, .int 0, .int 0])), (q_1, .inl (cA_2, 4800, .inr (.inl (fun _ => 0))))] H := hP
  have hD : va_D A [(h0, .inr (8, [.ref q_1, .null, .null, .null, .null, .null, .int 0, .int 0])), (q_1, .inl (cA_2, 4800, .inr (.inl (fun _ => 0))))] := hD
  have hP := hP.sub (ws' := [(h0, .inr (8, [.ref q_1, .null, .null, .null, .null, .null, .int 0, .int 0]))]) [0] rfl
  have hD := hD.sub (ws' := [(h0, .inr (8, [.ref q_1, .null, .null, .null, .null, .null, .int 0, .int 0]))]) [0] (by decide) rfl
  have hK := hK.sub (tys' := []) [] rfl
  refine lv_aload_n hx hb dX8_init_13 rfl (lv_at hl 0 rfl) ?_
  refine lv_sipush (v := 1024) hx hb dX8_init_14 (by decide) ?_
  refine va_newa (ty := .int) (n := 1024) (N' := 1024) (a0 := (1024, .inl (fun _ => 0))) hx hb (ow (k := 5) rfl) rfl hK hP hD hS hA (fun _ => rfl) (by decide) (by decide) (by decide) (Nat.le_of_ble_eq_true rfl) (Nat.le_of_ble_eq_true rfl) dX8_init_17 (fun q_3 cA_4 H hK hP hD hS => ?_)
  have hP : va_P (dC, dI) vwP [(h0, .inr (8, [.ref q_1, .null, .null, .null, .null, .null, .int 0, .int 0])), (q_3, .inl (cA_4, 1024, .inl (fun _ => 0)))] H := hP
  have hD : va_D A [(h0, .inr (8, [.ref q_1, .null, .null, .null, .null, .null, .int 0, .int 0])), (q_3, .inl (cA_4, 1024, .inl (fun _ => 0)))] := hD
  have hK : va_K (dC, dI) vwP [(cA_4, .int)] s := hK
  refine W.widen (k := 2) (n := 5824) (Nat.le_of_ble_eq_true rfl) (Nat.le_of_ble_eq_true rfl) ?_
  refine va_putF (D := (dC, dI)) (ci := 8) (v := .ref q_3) (ty := .array .int) (C := RX8) (T := TX8) (N := 8) hx hb hts mem_X8_init_0 tyX8 tyX8_ok nmX8 hown hK hP hD hS 0 rfl rfl 1 (by decide) (ow (k := 6) rfl) (fun _ h9 => h9) rfl hin rfl (by decide +kernel) rfl rfl (Nat.le_of_ble_eq_true rfl) dX8_init_19 (fun H locs hP hD hS => ?_)
  have hP : va_P (dC, dI) vwP [(h0, .inr (8, [.ref q_1, .ref q_3, .null, .null, .null, .null, .int 0, .int 0])), (q_3, .inl (cA_4, 1024, .inl (fun _ => 0)))] H := hP
  have hD : va_D A [(h0, .inr (8, [.ref q_1, .ref q_3, .null, .null, .null, .null, .int 0, .int 0])), (q_3, .inl (cA_4, 1024, .inl (fun _ => 0)))] := hD
  have hP := hP.sub (ws' := [(h0, .inr (8, [.ref q_1, .ref q_3, .null, .null, .null, .null, .int 0, .int 0]))]) [0] rfl
  have hD := hD.sub (ws' := [(h0, .inr (8, [.ref q_1, .ref q_3, .null, .null, .null, .null, .int 0, .int 0]))]) [0] (by decide) rfl
  have hK := hK.sub (tys' := []) [] rfl
  refine lv_aload_n hx hb dX8_init_22 rfl (lv_at hl 0 rfl) ?_
  refine lv_sipush (v := 300) hx hb dX8_init_23 (by decide) ?_
  refine va_newa (ty := .int) (n := 300) (N' := 300) (a0 := (300, .inl (fun _ => 0))) hx hb (ow (k := 5) rfl) rfl hK hP hD hS hA (fun _ => rfl) (by decide) (by decide) (by decide) (Nat.le_of_ble_eq_true rfl) (Nat.le_of_ble_eq_true rfl) dX8_init_26 (fun q_5 cA_6 H hK hP hD hS => ?_)
  have hP : va_P (dC, dI) vwP [(h0, .inr (8, [.ref q_1, .ref q_3, .null, .null, .null, .null, .int 0, .int 0])), (q_5, .inl (cA_6, 300, .inl (fun _ => 0)))] H := hP
  have hD : va_D A [(h0, .inr (8, [.ref q_1, .ref q_3, .null, .null, .null, .null, .int 0, .int 0])), (q_5, .inl (cA_6, 300, .inl (fun _ => 0)))] := hD
  have hK : va_K (dC, dI) vwP [(cA_6, .int)] s := hK
  refine W.widen (k := 3) (n := 6124) (Nat.le_of_ble_eq_true rfl) (Nat.le_of_ble_eq_true rfl) ?_
  refine va_putF (D := (dC, dI)) (ci := 8) (v := .ref q_5) (ty := .array .int) (C := RX8) (T := TX8) (N := 8) hx hb hts mem_X8_init_0 tyX8 tyX8_ok nmX8 hown hK hP hD hS 0 rfl rfl 2 (by decide) (ow (k := 7) rfl) (fun _ h9 => h9) rfl hin rfl (by decide +kernel) rfl rfl (Nat.le_of_ble_eq_true rfl) dX8_init_28 (fun H locs hP hD hS => ?_)
  have hP : va_P (dC, dI) vwP [(h0, .inr (8, [.ref q_1, .ref q_3, .ref q_5, .null, .null, .null, .int 0, .int 0])), (q_5, .inl (cA_6, 300, .inl (fun _ => 0)))] H := hP
  have hD : va_D A [(h0, .inr (8, [.ref q_1, .ref q_3, .ref q_5, .null, .null, .null, .int 0, .int 0])), (q_5, .inl (cA_6, 300, .inl (fun _ => 0)))] := hD
  have hP := hP.sub (ws' := [(h0, .inr (8, [.ref q_1, .ref q_3, .ref q_5, .null, .null, .null, .int 0, .int 0]))]) [0] rfl
  have hD := hD.sub (ws' := [(h0, .inr (8, [.ref q_1, .ref q_3, .ref q_5, .null, .null, .null, .int 0, .int 0]))]) [0] (by decide) rfl
  have hK := hK.sub (tys' := []) [] rfl
  refine lv_aload_n hx hb dX8_init_31 rfl (lv_at hl 0 rfl) ?_
  refine lv_sipush (v := 300) hx hb dX8_init_32 (by decide) ?_
  refine va_newa (ty := .int) (n := 300) (N' := 300) (a0 := (300, .inl (fun _ => 0))) hx hb (ow (k := 5) rfl) rfl hK hP hD hS hA (fun _ => rfl) (by decide) (by decide) (by decide) (Nat.le_of_ble_eq_true rfl) (Nat.le_of_ble_eq_true rfl) dX8_init_35 (fun q_7 cA_8 H hK hP hD hS => ?_)
  have hP : va_P (dC, dI) vwP [(h0, .inr (8, [.ref q_1, .ref q_3, .ref q_5, .null, .null, .null, .int 0, .int 0])), (q_7, .inl (cA_8, 300, .inl (fun _ => 0)))] H := hP
  have hD : va_D A [(h0, .inr (8, [.ref q_1, .ref q_3, .ref q_5, .null, .null, .null, .int 0, .int 0])), (q_7, .inl (cA_8, 300, .inl (fun _ => 0)))] := hD
  have hK : va_K (dC, dI) vwP [(cA_8, .int)] s := hK
  refine W.widen (k := 4) (n := 6424) (Nat.le_of_ble_eq_true rfl) (Nat.le_of_ble_eq_true rfl) ?_
  refine va_putF (D := (dC, dI)) (ci := 8) (v := .ref q_7) (ty := .array .int) (C := RX8) (T := TX8) (N := 8) hx hb hts mem_X8_init_0 tyX8 tyX8_ok nmX8 hown hK hP hD hS 0 rfl rfl 3 (by decide) (ow (k := 8) rfl) (fun _ h9 => h9) rfl hin rfl (by decide +kernel) rfl rfl (Nat.le_of_ble_eq_true rfl) dX8_init_37 (fun H locs hP hD hS => ?_)
  have hP : va_P (dC, dI) vwP [(h0, .inr (8, [.ref q_1, .ref q_3, .ref q_5, .ref q_7, .null, .null, .int 0, .int 0])), (q_7, .inl (cA_8, 300, .inl (fun _ => 0)))] H := hP
  have hD : va_D A [(h0, .inr (8, [.ref q_1, .ref q_3, .ref q_5, .ref q_7, .null, .null, .int 0, .int 0])), (q_7, .inl (cA_8, 300, .inl (fun _ => 0)))] := hD
  have hP := hP.sub (ws' := [(h0, .inr (8, [.ref q_1, .ref q_3, .ref q_5, .ref q_7, .null, .null, .int 0, .int 0]))]) [0] rfl
  have hD := hD.sub (ws' := [(h0, .inr (8, [.ref q_1, .ref q_3, .ref q_5, .ref q_7, .null, .null, .int 0, .int 0]))]) [0] (by decide) rfl
  have hK := hK.sub (tys' := []) [] rfl
  refine lv_aload_n hx hb dX8_init_40 rfl (lv_at hl 0 rfl) ?_
  refine lv_sipush (v := 1000) hx hb dX8_init_41 (by decide) ?_
  refine va_newa (ty := .int) (n := 1000) (N' := 1000) (a0 := (1000, .inl (fun _ => 0))) hx hb (ow (k := 5) rfl) rfl hK hP hD hS hA (fun _ => rfl) (by decide) (by decide) (by decide) (Nat.le_of_ble_eq_true rfl) (Nat.le_of_ble_eq_true rfl) dX8_init_44 (fun q_9 cA_10 H hK hP hD hS => ?_)
  have hP : va_P (dC, dI) vwP [(h0, .inr (8, [.ref q_1, .ref q_3, .ref q_5, .ref q_7, .null, .null, .int 0, .int 0])), (q_9, .inl (cA_10, 1000, .inl (fun _ => 0)))] H := hP
  have hD : va_D A [(h0, .inr (8, [.ref q_1, .ref q_3, .ref q_5, .ref q_7, .null, .null, .int 0, .int 0])), (q_9, .inl (cA_10, 1000, .inl (fun _ => 0)))] := hD
  have hK : va_K (dC, dI) vwP [(cA_10, .int)] s := hK
  refine W.widen (k := 5) (n := 7424) (Nat.le_of_ble_eq_true rfl) (Nat.le_of_ble_eq_true rfl) ?_
  refine va_putF (D := (dC, dI)) (ci := 8) (v := .ref q_9) (ty := .array .int) (C := RX8) (T := TX8) (N := 8) hx hb hts mem_X8_init_0 tyX8 tyX8_ok nmX8 hown hK hP hD hS 0 rfl rfl 4 (by decide) (ow (k := 9) rfl) (fun _ h9 => h9) rfl hin rfl (by decide +kernel) rfl rfl (Nat.le_of_ble_eq_true rfl) dX8_init_46 (fun H locs hP hD hS => ?_)
  have hP : va_P (dC, dI) vwP [(h0, .inr (8, [.ref q_1, .ref q_3, .ref q_5, .ref q_7, .ref q_9, .null, .int 0, .int 0])), (q_9, .inl (cA_10, 1000, .inl (fun _ => 0)))] H := hP
  have hD : va_D A [(h0, .inr (8, [.ref q_1, .ref q_3, .ref q_5, .ref q_7, .ref q_9, .null, .int 0, .int 0])), (q_9, .inl (cA_10, 1000, .inl (fun _ => 0)))] := hD
  have hP := hP.sub (ws' := [(h0, .inr (8, [.ref q_1, .ref q_3, .ref q_5, .ref q_7, .ref q_9, .null, .int 0, .int 0]))]) [0] rfl
  have hD := hD.sub (ws' := [(h0, .inr (8, [.ref q_1, .ref q_3, .ref q_5, .ref q_7, .ref q_9, .null, .int 0, .int 0]))]) [0] (by decide) rfl
  have hK := hK.sub (tys' := []) [] rfl
  refine lv_aload_n hx hb dX8_init_49 rfl (lv_at hl 0 rfl) ?_
  refine lv_sipush (v := 1000) hx hb dX8_init_50 (by decide) ?_
  refine va_newa (ty := .int) (n := 1000) (N' := 1000) (a0 := (1000, .inl (fun _ => 0))) hx hb (ow (k := 5) rfl) rfl hK hP hD hS hA (fun _ => rfl) (by decide) (by decide) (by decide) (Nat.le_of_ble_eq_true rfl) (Nat.le_of_ble_eq_true rfl) dX8_init_53 (fun q_11 cA_12 H hK hP hD hS => ?_)
  have hP : va_P (dC, dI) vwP [(h0, .inr (8, [.ref q_1, .ref q_3, .ref q_5, .ref q_7, .ref q_9, .null, .int 0, .int 0])), (q_11, .inl (cA_12, 1000, .inl (fun _ => 0)))] H := hP
  have hD : va_D A [(h0, .inr (8, [.ref q_1, .ref q_3, .ref q_5, .ref q_7, .ref q_9, .null, .int 0, .int 0])), (q_11, .inl (cA_12, 1000, .inl (fun _ => 0)))] := hD
  have hK : va_K (dC, dI) vwP [(cA_12, .int)] s := hK
  refine W.widen (k := 6) (n := 8424) (Nat.le_of_ble_eq_true rfl) (Nat.le_of_ble_eq_true rfl) ?_
  refine va_putF (D := (dC, dI)) (ci := 8) (v := .ref q_11) (ty := .array .int) (C := RX8) (T := TX8) (N := 8) hx hb hts mem_X8_init_0 tyX8 tyX8_ok nmX8 hown hK hP hD hS 0 rfl rfl 5 (by decide) (ow (k := 10) rfl) (fun _ h9 => h9) rfl hin rfl (by decide +kernel) rfl rfl (Nat.le_of_ble_eq_true rfl) dX8_init_55 (fun H locs hP hD hS => ?_)
  have hP : va_P (dC, dI) vwP [(h0, .inr (8, [.ref q_1, .ref q_3, .ref q_5, .ref q_7, .ref q_9, .ref q_11, .int 0, .int 0])), (q_11, .inl (cA_12, 1000, .inl (fun _ => 0)))] H := hP
  have hD : va_D A [(h0, .inr (8, [.ref q_1, .ref q_3, .ref q_5, .ref q_7, .ref q_9, .ref q_11, .int 0, .int 0])), (q_11, .inl (cA_12, 1000, .inl (fun _ => 0)))] := hD
  have hP := hP.sub (ws' := [(h0, .inr (8, [.ref q_1, .ref q_3, .ref q_5, .ref q_7, .ref q_9, .ref q_11, .int 0, .int 0]))]) [0] rfl
  have hD := hD.sub (ws' := [(h0, .inr (8, [.ref q_1, .ref q_3, .ref q_5, .ref q_7, .ref q_9, .ref q_11, .int 0, .int 0]))]) [0] (by decide) rfl
  have hK := hK.sub (tys' := []) [] rfl
  refine lv_aload_n hx hb dX8_init_58 rfl (lv_at hl 0 rfl) ?_
  refine lv_iconst (v := 0) hx hb dX8_init_59 (by decide) ?_
  refine va_put (D := (dC, dI)) (ci := 8) (v := .int 0) (ty := .int) (C := RX8) (T := TX8) (N := 8) hx hb hts mem_X8_init_0 tyX8 tyX8_ok nmX8 hown hK hP hD hS 0 rfl rfl 6 (by decide) (ow (k := 11) rfl) (fun _ h9 => h9) rfl (by decide +kernel) rfl rfl (Nat.le_of_ble_eq_true rfl) dX8_init_60 (fun H locs hP hD hS => ?_)
  have hP : va_P (dC, dI) vwP [(h0, .inr (8, [.ref q_1, .ref q_3, .ref q_5, .ref q_7, .ref q_9, .ref q_11, .int 0, .int 0]))] H := hP
  have hD : va_D A [(h0, .inr (8, [.ref q_1, .ref q_3, .ref q_5, .ref q_7, .ref q_9, .ref q_11, .int 0, .int 0]))] := hD
  refine lv_aload_n hx hb dX8_init_63 rfl (lv_at hl 0 rfl) ?_
  refine lv_iconst (v := 0) hx hb dX8_init_64 (by decide) ?_
  refine va_put (D := (dC, dI)) (ci := 8) (v := .int 0) (ty := .int) (C := RX8) (T := TX8) (N := 8) hx hb hts mem_X8_init_0 tyX8 tyX8_ok nmX8 hown hK hP hD hS 0 rfl rfl 7 (by decide) (ow (k := 12) rfl) (fun _ h9 => h9) rfl (by decide +kernel) rfl rfl (Nat.le_of_ble_eq_true rfl) dX8_init_65 (fun H locs hP hD hS => ?_)
  have hP : va_P (dC, dI) vwP [(h0, .inr (8, [.ref q_1, .ref q_3, .ref q_5, .ref q_7, .ref q_9, .ref q_11, .int 0, .int 0]))] H := hP
  have hD : va_D A [(h0, .inr (8, [.ref q_1, .ref q_3, .ref q_5, .ref q_7, .ref q_9, .ref q_11, .int 0, .int 0]))] := hD
  refine W.widen (k := 6) (n := 8424) (Nat.le_of_ble_eq_true rfl) (Nat.le_of_ble_eq_true rfl) ?_
  exact W.vret hx hb hr (fun t ht hW => ⟨⟨(), rfl, trivial, q_1, q_3, q_5, q_7, q_9, q_11, by rw [ht]; exact hP, va_K.moved hW.alike hK, hD⟩, hS.F ht⟩) hS.2.2 dX8_init_68
theorem dX9_init_0 : decode cX9_init 0 = .ok (.aload_n 0, 1) := by decide +kernel
theorem dX9_init_1 : decode cX9_init 1 = .ok (.invokespecial 3, 3) := by decide +kernel
theorem dX9_init_4 : decode cX9_init 4 = .ok (.aload_n 0, 1) := by decide +kernel
theorem dX9_init_5 : decode cX9_init 5 = .ok (.sipush 300, 3) := by decide +kernel
theorem dX9_init_8 : decode cX9_init 8 = .ok (.newarray .boolean, 2) := by decide +kernel
theorem dX9_init_10 : decode cX9_init 10 = .ok (.putfield 9, 3) := by decide +kernel
theorem dX9_init_13 : decode cX9_init 13 = .ok (.aload_n 0, 1) := by decide +kernel
theorem dX9_init_14 : decode cX9_init 14 = .ok (.sipush 300, 3) := by decide +kernel
theorem dX9_init_17 : decode cX9_init 17 = .ok (.newarray .int, 2) := by decide +kernel
theorem dX9_init_19 : decode cX9_init 19 = .ok (.putfield 15, 3) := by decide +kernel
theorem dX9_init_22 : decode cX9_init 22 = .ok (.aload_n 0, 1) := by decide +kernel
theorem dX9_init_23 : decode cX9_init 23 = .ok (.sipush 300, 3) := by decide +kernel
theorem dX9_init_26 : decode cX9_init 26 = .ok (.newarray .int, 2) := by decide +kernel
theorem dX9_init_28 : decode cX9_init 28 = .ok (.putfield 19, 3) := by decide +kernel
theorem dX9_init_31 : decode cX9_init 31 = .ok (.aload_n 0, 1) := by decide +kernel
theorem dX9_init_32 : decode cX9_init 32 = .ok (.sipush 300, 3) := by decide +kernel
theorem dX9_init_35 : decode cX9_init 35 = .ok (.newarray .int, 2) := by decide +kernel
theorem dX9_init_37 : decode cX9_init 37 = .ok (.putfield 22, 3) := by decide +kernel
theorem dX9_init_40 : decode cX9_init 40 = .ok (.aload_n 0, 1) := by decide +kernel
theorem dX9_init_41 : decode cX9_init 41 = .ok (.sipush 300, 3) := by decide +kernel
theorem dX9_init_44 : decode cX9_init 44 = .ok (.newarray .int, 2) := by decide +kernel
theorem dX9_init_46 : decode cX9_init 46 = .ok (.putfield 25, 3) := by decide +kernel
theorem dX9_init_49 : decode cX9_init 49 = .ok (.aload_n 0, 1) := by decide +kernel
theorem dX9_init_50 : decode cX9_init 50 = .ok (.sipush 1024, 3) := by decide +kernel
theorem dX9_init_53 : decode cX9_init 53 = .ok (.newarray .boolean, 2) := by decide +kernel
theorem dX9_init_55 : decode cX9_init 55 = .ok (.putfield 28, 3) := by decide +kernel
theorem dX9_init_58 : decode cX9_init 58 = .ok (.aload_n 0, 1) := by decide +kernel
theorem dX9_init_59 : decode cX9_init 59 = .ok (.sipush 1024, 3) := by decide +kernel
theorem dX9_init_62 : decode cX9_init 62 = .ok (.newarray .long, 2) := by decide +kernel
theorem dX9_init_64 : decode cX9_init 64 = .ok (.putfield 31, 3) := by decide +kernel
theorem dX9_init_67 : decode cX9_init 67 = .ok (.aload_n 0, 1) := by decide +kernel
theorem dX9_init_68 : decode cX9_init 68 = .ok (.iconst 0, 1) := by decide +kernel
theorem dX9_init_69 : decode cX9_init 69 = .ok (.putfield 35, 3) := by decide +kernel
theorem dX9_init_72 : decode cX9_init 72 = .ok (.aload_n 0, 1) := by decide +kernel
theorem dX9_init_73 : decode cX9_init 73 = .ok (.iconst 0, 1) := by decide +kernel
theorem dX9_init_74 : decode cX9_init 74 = .ok (.putfield 39, 3) := by decide +kernel
theorem dX9_init_77 : decode cX9_init 77 = .ok (.return_, 1) := by decide +kernel
def o_X9_init : List Cond := [.methodLink RX9 3 objectInit, .instanceMethod objectInit, .code objectInit ⟨#[0xb1]⟩ 1 none, .arrayClass .boolean, .fieldLink RX9 9 "SsaForge$Tidier" "leads" "[Z", .arrayClass .int, .fieldLink RX9 15 "SsaForge$Tidier" "follower" "[I", .fieldLink RX9 19 "SsaForge$Tidier" "number" "[I", .fieldLink RX9 22 "SsaForge$Tidier" "firstOf" "[I", .fieldLink RX9 25 "SsaForge$Tidier" "lastOf" "[I", .fieldLink RX9 28 "SsaForge$Tidier" "marked" "[Z", .arrayClass .long, .fieldLink RX9 31 "SsaForge$Tidier" "instead" "[J", .fieldLink RX9 35 "SsaForge$Tidier" "changed" "Z", .fieldLink RX9 39 "SsaForge$Tidier" "foundBlock" "I"]
def v_X9_init : List Cond := .code yX9_init cX9_init 1 none :: (o_X9_init ++ (wsX90 ++ []))
theorem mow_X9_init : ∀ w ∈ o_X9_init, w ∈ v_X9_init := fun _ h => List.mem_cons_of_mem _ (List.mem_append_left _ h)
theorem mem_X9_init_0 : ∀ w ∈ wsX90, w ∈ v_X9_init := fun _ h => List.mem_cons_of_mem _ (List.mem_append_right _ (List.mem_append_left _ h))
set_option maxRecDepth 20000 in
theorem gw_X9_init : v_X9_init.all goodWord = true := by decide +kernel
set_option maxHeartbeats 4000000 in
set_option maxRecDepth 100000 in
theorem c_X9_init (l : Launch) (dC : Nat → ClassId) (dI : Nat → Nat → Nat) (h0 : Nat) (sz : Nat) : Met l yX9_init v_X9_init ({ frames := 1, cells := 7, slots := 3548, locals := 12 }) (va_Pc [.ref h0] (fun U => U.heap.size = sz ∧ va_P (dC, dI) vwP [(h0, .inr (9, [.null, .null, .null, .null, .null, .null, .null, .int 0, .int 0]))] U.heap ∧ va_K (dC, dI) vwP [] U ∧ va_D (fun _ => True) [(h0, .inr (9, [.null, .null, .null, .null, .null, .null, .null, .int 0, .int 0]))])) (va_Qv (fun _ : Unit => True) (fun (_ : Unit) (t : State) => ∃ (q_1 : Nat) (q_3 : Nat) (q_5 : Nat) (q_7 : Nat) (q_9 : Nat) (q_11 : Nat) (q_13 : Nat), va_P (dC, dI) vwP [(h0, .inr (9, [.ref q_1, .ref q_3, .ref q_5, .ref q_7, .ref q_9, .ref q_11, .ref q_13, .int 0, .int 0]))] t.heap ∧ va_K (dC, dI) vwP [] t ∧ va_D (va_A [(h0, .inr (9, [.null, .null, .null, .null, .null, .null, .null, .int 0, .int 0]))] sz) [(h0, .inr (9, [.ref q_1, .ref q_3, .ref q_5, .ref q_7, .ref q_9, .ref q_11, .ref q_13, .int 0, .int 0]))]) (va_A [(h0, .inr (9, [.null, .null, .null, .null, .null, .null, .null, .int 0, .int 0]))] sz)) 7 3548 (va_A [(h0, .inr (9, [.null, .null, .null, .null, .null, .null, .null, .int 0, .int 0]))] sz) := by
  refine Met.ofW (cc := cX9_init) (maxL := 1) (ret := none) (by decide) rfl ?_
  intro p e s m args below meth c s₁ B hml hv
  obtain ⟨rfl, hsz, hP, hK, hD0⟩ := hv
  have hx := B.exec
  have hb := B.bytes
  have hr := B.returns
  have hts := atoms_spec (ws := v_X9_init) B.pre
  have hown : s.vm.findClass RX9 = some m.cls := findClass_of_methodNamed B.named
  have hlocks := B.notSynchronized
  have ow : ∀ {k : Nat} {w : Cond}, o_X9_init[k]? = some w → w.before ([.ref h0] : List Value).toArray s = true := fun h => hts _ (mow_X9_init _ (List.mem_of_getElem? h))
  have hin : meth.name = "<init>" := (name_of_methodNamed B.named B.method).1
  subst hsz
  have hD := hD0.self (sz := s.heap.size)
  generalize hAe : va_A [(h0, .inr (9, [.null, .null, .null, .null, .null, .null, .null, .int 0, .int 0]))] s.heap.size = A at hD ⊢
  have hA : ∀ q : Nat, s.heap.size ≤ q → A q := fun q h => by rw [← hAe]; exact Or.inr h
  have hS : va_S A s.heap s.heap [] := va_S.rf
  have hP : va_P (dC, dI) vwP [(h0, .inr (9, [.null, .null, .null, .null, .null, .null, .null, .int 0, .int 0]))] s.heap := hP
  have hl := lv_entry ([.ref h0]) (n := 1) (Nat.le_of_ble_eq_true rfl)
  rw [lg_entry_eq]
  generalize (lg_sl ([.ref h0]) ++ List.replicate (1 - (lg_sl ([.ref h0])).length) Slot.unset).toArray = ls at hl ⊢
  have hl : lv_has ls 1 [(0, .ref h0)] := hl
  obtain ⟨H, hH⟩ : ∃ H, H = s.heap := ⟨_, rfl⟩
  rw [← hH] at hP
  have hS : va_S A s.heap H [] := by rw [hH]; exact hS
  rw [← hH]
  refine lv_aload_n hx hb dX9_init_0 rfl (lv_at hl 0 rfl) ?_
  refine W.objInit hx hb hown (ow (k := 0) rfl) (ow (k := 1) rfl) (ow (k := 2) rfl) rfl (by rw [hml]; exact hl.1) rfl dX9_init_1 (Nat.le_of_ble_eq_true rfl) (Nat.le_of_ble_eq_true rfl) ?_
  refine W.eq (g2 := F0 m 4 ls []) rfl ?_
  refine lv_aload_n hx hb dX9_init_4 rfl (lv_at hl 0 rfl) ?_
  refine lv_sipush (v := 300) hx hb dX9_init_5 (by decide) ?_
  refine va_newa (ty := .boolean) (n := 300) (N' := 300) (a0 := (300, .inl (fun _ => 0))) hx hb (ow (k := 3) rfl) rfl hK hP hD hS hA (fun _ => rfl) (by decide) (by decide) (by decide) (Nat.le_of_ble_eq_true rfl) (Nat.le_of_ble_eq_true rfl) dX9_init_8 (fun q_1 cA_2 H hK hP hD hS => ?_)
  have hP : va_P (dC, dI) vwP [(h0, .inr (9, [.null, .null, .null, .null, .null, .null, .null, .int 0, .int 0])), (q_1, .inl (cA_2, 300, .inl (fun _ => 0)))] H := hP
  have hD : va_D A [(h0, .inr (9, [.null, .null, .null, .null, .null, .null, .null, .int 0, .int 0])), (q_1, .inl (cA_2, 300, .inl (fun _ => 0)))] := hD
  have hK : va_K (dC, dI) vwP [(cA_2, .boolean)] s := hK
  refine W.widen (k := 1) (n := 300) (Nat.le_of_ble_eq_true rfl) (Nat.le_of_ble_eq_true rfl) ?_
  refine va_putF (D := (dC, dI)) (ci := 9) (v := .ref q_1) (ty := .array .boolean) (C := RX9) (T := TX9) (N := 9) hx hb hts mem_X9_init_0 tyX9 tyX9_ok nmX9 hown hK hP hD hS 0 rfl rfl 0 (by decide) (ow (k := 4) rfl) (fun _ h9 => h9) rfl hin rfl (by decide +kernel) rfl rfl (Nat.le_of_ble_eq_true rfl) dX9_init_10 (fun H locs hP hD hS => ?_)
  have hP : va_P (dC, dI) vwP [(h0, .inr (9, [.ref q_1, .null, .null, .null, .null, .null, .null, .int 0, .int 0])), (q_1, .inl (cA_2, 300, .inl (fun _ => 0)))] H := hP
  have hD : va_D A [(h0, .inr (9, [.ref q_1, .null, .null, .null, .null, .null, .null, .int 0, .int 0])), (q_1, .inl (cA_2, 300, .inl (fun _ => 0)))] := hD
  have hP := hP.sub (ws' := [(h0, .inr (9, [.ref q_1, .null, .null, .null, .null, .null, .null, .int 0, .int 0]))]) [0] rfl
  have hD := hD.sub (ws' := [(h0, .inr (9, [.ref q_1, .null, .null, .null, .null, .null, .null, .int 0, .int 0]))]) [0] (by decide) rfl
  have hK := hK.sub (tys' := []) [] rfl
  refine lv_aload_n hx hb dX9_init_13 rfl (lv_at hl 0 rfl) ?_
  refine lv_sipush (v := 300) hx hb dX9_init_14 (by decide) ?_
  refine va_newa (ty := .int) (n := 300) (N' := 300) (a0 := (300, .inl (fun _ => 0))) hx hb (ow (k := 5) rfl) rfl hK hP hD hS hA (fun _ => rfl) (by decide) (by decide) (by decide) (Nat.le_of_ble_eq_true rfl) (Nat.le_of_ble_eq_true rfl) dX9_init_17 (fun q_3 cA_4 H hK hP hD hS => ?_)
  have hP : va_P (dC, dI) vwP [(h0, .inr (9, [.ref q_1, .null, .null, .null, .null, .null, .null, .int 0, .int 0])), (q_3, .inl (cA_4, 300, .inl (fun _ => 0)))] H := hP
  have hD : va_D A [(h0, .inr (9, [.ref q_1, .null, .null, .null, .null, .null, .null, .int 0, .int 0])), (q_3, .inl (cA_4, 300, .inl (fun _ => 0)))] := hD
  have hK : va_K (dC, dI) vwP [(cA_4, .int)] s := hK
  refine W.widen (k := 2) (n := 600) (Nat.le_of_ble_eq_true rfl) (Nat.le_of_ble_eq_true rfl) ?_
  refine va_putF (D := (dC, dI)) (ci := 9) (v := .ref q_3) (ty := .array .int) (C := RX9) (T := TX9) (N := 9) hx hb hts mem_X9_init_0 tyX9 tyX9_ok nmX9 hown hK hP hD hS 0 rfl rfl 1 (by decide) (ow (k := 6) rfl) (fun _ h9 => h9) rfl hin rfl (by decide +kernel) rfl rfl (Nat.le_of_ble_eq_true rfl) dX9_init_19 (fun H locs hP hD hS => ?_)
  have hP : va_P (dC, dI) vwP [(h0, .inr (9, [.ref q_1, .ref q_3, .null, .null, .null, .null, .null, .int 0, .int 0])), (q_3, .inl (cA_4, 300, .inl (fun _ => 0)))] H := hP
  have hD : va_D A [(h0, .inr (9, [.ref q_1, .ref q_3, .null, .null, .null, .null, .null, .int 0, .int 0])), (q_3, .inl (cA_4, 300, .inl (fun _ => 0)))] := hD
  have hP := hP.sub (ws' := [(h0, .inr (9, [.ref q_1, .ref q_3, .null, .null, .null, .null, .null, .int 0, .int 0]))]) [0] rfl
  have hD := hD.sub (ws' := [(h0, .inr (9, [.ref q_1, .ref q_3, .null, .null, .null, .null, .null, .int 0, .int 0]))]) [0] (by decide) rfl
  have hK := hK.sub (tys' := []) [] rfl
  refine lv_aload_n hx hb dX9_init_22 rfl (lv_at hl 0 rfl) ?_
  refine lv_sipush (v := 300) hx hb dX9_init_23 (by decide) ?_
  refine va_newa (ty := .int) (n := 300) (N' := 300) (a0 := (300, .inl (fun _ => 0))) hx hb (ow (k := 5) rfl) rfl hK hP hD hS hA (fun _ => rfl) (by decide) (by decide) (by decide) (Nat.le_of_ble_eq_true rfl) (Nat.le_of_ble_eq_true rfl) dX9_init_26 (fun q_5 cA_6 H hK hP hD hS => ?_)
  have hP : va_P (dC, dI) vwP [(h0, .inr (9, [.ref q_1, .ref q_3, .null, .null, .null, .null, .null, .int 0, .int 0])), (q_5, .inl (cA_6, 300, .inl (fun _ => 0)))] H := hP
  have hD : va_D A [(h0, .inr (9, [.ref q_1, .ref q_3, .null, .null, .null, .null, .null, .int 0, .int 0])), (q_5, .inl (cA_6, 300, .inl (fun _ => 0)))] := hD
  have hK : va_K (dC, dI) vwP [(cA_6, .int)] s := hK
  refine W.widen (k := 3) (n := 900) (Nat.le_of_ble_eq_true rfl) (Nat.le_of_ble_eq_true rfl) ?_
  refine va_putF (D := (dC, dI)) (ci := 9) (v := .ref q_5) (ty := .array .int) (C := RX9) (T := TX9) (N := 9) hx hb hts mem_X9_init_0 tyX9 tyX9_ok nmX9 hown hK hP hD hS 0 rfl rfl 2 (by decide) (ow (k := 7) rfl) (fun _ h9 => h9) rfl hin rfl (by decide +kernel) rfl rfl (Nat.le_of_ble_eq_true rfl) dX9_init_28 (fun H locs hP hD hS => ?_)
  have hP : va_P (dC, dI) vwP [(h0, .inr (9, [.ref q_1, .ref q_3, .ref q_5, .null, .null, .null, .null, .int 0, .int 0])), (q_5, .inl (cA_6, 300, .inl (fun _ => 0)))] H := hP
  have hD : va_D A [(h0, .inr (9, [.ref q_1, .ref q_3, .ref q_5, .null, .null, .null, .null, .int 0, .int 0])), (q_5, .inl (cA_6, 300, .inl (fun _ => 0)))] := hD
  have hP := hP.sub (ws' := [(h0, .inr (9, [.ref q_1, .ref q_3, .ref q_5, .null, .null, .null, .null, .int 0, .int 0]))]) [0] rfl
  have hD := hD.sub (ws' := [(h0, .inr (9, [.ref q_1, .ref q_3, .ref q_5, .null, .null, .null, .null, .int 0, .int 0]))]) [0] (by decide) rfl
  have hK := hK.sub (tys' := []) [] rfl
  refine lv_aload_n hx hb dX9_init_31 rfl (lv_at hl 0 rfl) ?_
  refine lv_sipush (v := 300) hx hb dX9_init_32 (by decide) ?_
  refine va_newa (ty := .int) (n := 300) (N' := 300) (a0 := (300, .inl (fun _ => 0))) hx hb (ow (k := 5) rfl) rfl hK hP hD hS hA (fun _ => rfl) (by decide) (by decide) (by decide) (Nat.le_of_ble_eq_true rfl) (Nat.le_of_ble_eq_true rfl) dX9_init_35 (fun q_7 cA_8 H hK hP hD hS => ?_)
  have hP : va_P (dC, dI) vwP [(h0, .inr (9, [.ref q_1, .ref q_3, .ref q_5, .null, .null, .null, .null, .int 0, .int 0])), (q_7, .inl (cA_8, 300, .inl (fun _ => 0)))] H := hP
  have hD : va_D A [(h0, .inr (9, [.ref q_1, .ref q_3, .ref q_5, .null, .null, .null, .null, .int 0, .int 0])), (q_7, .inl (cA_8, 300, .inl (fun _ => 0)))] := hD
  have hK : va_K (dC, dI) vwP [(cA_8, .int)] s := hK
  refine W.widen (k := 4) (n := 1200) (Nat.le_of_ble_eq_true rfl) (Nat.le_of_ble_eq_true rfl) ?_
  refine va_putF (D := (dC, dI)) (ci := 9) (v := .ref q_7) (ty := .array .int) (C := RX9) (T := TX9) (N := 9) hx hb hts mem_X9_init_0 tyX9 tyX9_ok nmX9 hown hK hP hD hS 0 rfl rfl 3 (by decide) (ow (k := 8) rfl) (fun _ h9 => h9) rfl hin rfl (by decide +kernel) rfl rfl (Nat.le_of_ble_eq_true rfl) dX9_init_37 (fun H locs hP hD hS => ?_)
  have hP : va_P (dC, dI) vwP [(h0, .inr (9, [.ref q_1, .ref q_3, .ref q_5, .ref q_7, .null, .null, .null, .int 0, .int 0])), (q_7, .inl (cA_8, 300, .inl (fun _ => 0)))] H := hP
  have hD : va_D A [(h0, .inr (9, [.ref q_1, .ref q_3, .ref q_5, .ref q_7, .null, .null, .null, .int 0, .int 0])), (q_7, .inl (cA_8, 300, .inl (fun _ => 0)))] := hD
  have hP := hP.sub (ws' := [(h0, .inr (9, [.ref q_1, .ref q_3, .ref q_5, .ref q_7, .null, .null, .null, .int 0, .int 0]))]) [0] rfl
  have hD := hD.sub (ws' := [(h0, .inr (9, [.ref q_1, .ref q_3, .ref q_5, .ref q_7, .null, .null, .null, .int 0, .int 0]))]) [0] (by decide) rfl
  have hK := hK.sub (tys' := []) [] rfl
  refine lv_aload_n hx hb dX9_init_40 rfl (lv_at hl 0 rfl) ?_
  refine lv_sipush (v := 300) hx hb dX9_init_41 (by decide) ?_
  refine va_newa (ty := .int) (n := 300) (N' := 300) (a0 := (300, .inl (fun _ => 0))) hx hb (ow (k := 5) rfl) rfl hK hP hD hS hA (fun _ => rfl) (by decide) (by decide) (by decide) (Nat.le_of_ble_eq_true rfl) (Nat.le_of_ble_eq_true rfl) dX9_init_44 (fun q_9 cA_10 H hK hP hD hS => ?_)
  have hP : va_P (dC, dI) vwP [(h0, .inr (9, [.ref q_1, .ref q_3, .ref q_5, .ref q_7, .null, .null, .null, .int 0, .int 0])), (q_9, .inl (cA_10, 300, .inl (fun _ => 0)))] H := hP
  have hD : va_D A [(h0, .inr (9, [.ref q_1, .ref q_3, .ref q_5, .ref q_7, .null, .null, .null, .int 0, .int 0])), (q_9, .inl (cA_10, 300, .inl (fun _ => 0)))] := hD
  have hK : va_K (dC, dI) vwP [(cA_10, .int)] s := hK
  refine W.widen (k := 5) (n := 1500) (Nat.le_of_ble_eq_true rfl) (Nat.le_of_ble_eq_true rfl) ?_
  refine va_putF (D := (dC, dI)) (ci := 9) (v := .ref q_9) (ty := .array .int) (C := RX9) (T := TX9) (N := 9) hx hb hts mem_X9_init_0 tyX9 tyX9_ok nmX9 hown hK hP hD hS 0 rfl rfl 4 (by decide) (ow (k := 9) rfl) (fun _ h9 => h9) rfl hin rfl (by decide +kernel) rfl rfl (Nat.le_of_ble_eq_true rfl) dX9_init_46 (fun H locs hP hD hS => ?_)
  have hP : va_P (dC, dI) vwP [(h0, .inr (9, [.ref q_1, .ref q_3, .ref q_5, .ref q_7, .ref q_9, .null, .null, .int 0, .int 0])), (q_9, .inl (cA_10, 300, .inl (fun _ => 0)))] H := hP
  have hD : va_D A [(h0, .inr (9, [.ref q_1, .ref q_3, .ref q_5, .ref q_7, .ref q_9, .null, .null, .int 0, .int 0])), (q_9, .inl (cA_10, 300, .inl (fun _ => 0)))] := hD
  have hP := hP.sub (ws' := [(h0, .inr (9, [.ref q_1, .ref q_3, .ref q_5, .ref q_7, .ref q_9, .null, .null, .int 0, .int 0]))]) [0] rfl
  have hD := hD.sub (ws' := [(h0, .inr (9, [.ref q_1, .ref q_3, .ref q_5, .ref q_7, .ref q_9, .null, .null, .int 0, .int 0]))]) [0] (by decide) rfl
  have hK := hK.sub (tys' := []) [] rfl
  refine lv_aload_n hx hb dX9_init_49 rfl (lv_at hl 0 rfl) ?_
  refine lv_sipush (v := 1024) hx hb dX9_init_50 (by decide) ?_
  refine va_newa (ty := .boolean) (n := 1024) (N' := 1024) (a0 := (1024, .inl (fun _ => 0))) hx hb (ow (k := 3) rfl) rfl hK hP hD hS hA (fun _ => rfl) (by decide) (by decide) (by decide) (Nat.le_of_ble_eq_true rfl) (Nat.le_of_ble_eq_true rfl) dX9_init_53 (fun q_11 cA_12 H hK hP hD hS => ?_)
  have hP : va_P (dC, dI) vwP [(h0, .inr (9, [.ref q_1, .ref q_3, .ref q_5, .ref q_7, .ref q_9, .null, .null, .int 0, .int 0])), (q_11, .inl (cA_12, 1024, .inl (fun _ => 0)))] H := hP
  have hD : va_D A [(h0, .inr (9, [.ref q_1, .ref q_3, .ref q_5, .ref q_7, .ref q_9, .null, .null, .int 0, .int 0])), (q_11, .inl (cA_12, 1024, .inl (fun _ => 0)))] := hD
  have hK : va_K (dC, dI) vwP [(cA_12, .boolean)] s := hK
  refine W.widen (k := 6) (n := 2524) (Nat.le_of_ble_eq_true rfl) (Nat.le_of_ble_eq_true rfl) ?_
  refine va_putF (D := (dC, dI)) (ci := 9) (v := .ref q_11) (ty := .array .boolean) (C := RX9) (T := TX9) (N := 9) hx hb hts mem_X9_init_0 tyX9 tyX9_ok nmX9 hown hK hP hD hS 0 rfl rfl 5 (by decide) (ow (k := 10) rfl) (fun _ h9 => h9) rfl hin rfl (by decide +kernel) rfl rfl (Nat.le_of_ble_eq_true rfl) dX9_init_55 (fun H locs hP hD hS => ?_)
  have hP : va_P (dC, dI) vwP [(h0, .inr (9, [.ref q_1, .ref q_3, .ref q_5, .ref q_7, .ref q_9, .ref q_11, .null, .int 0, .int 0])), (q_11, .inl (cA_12, 1024, .inl (fun _ => 0)))] H := hP
  have hD : va_D A [(h0, .inr (9, [.ref q_1, .ref q_3, .ref q_5, .ref q_7, .ref q_9, .ref q_11, .null, .int 0, .int 0])), (q_11, .inl (cA_12, 1024, .inl (fun _ => 0)))] := hD
  have hP := hP.sub (ws' := [(h0, .inr (9, [.ref q_1, .ref q_3, .ref q_5, .ref q_7, .ref q_9, .ref q_11, .null, .int 0, .int 0]))]) [0] rfl
  have hD := hD.sub (ws' := [(h0, .inr (9, [.ref q_1, .ref q_3, .ref q_5, .ref q_7, .ref q_9, .ref q_11, .null, .int 0, .int 0]))]) [0] (by decide) rfl
  have hK := hK.sub (tys' := []) [] rfl
  refine lv_aload_n hx hb dX9_init_58 rfl (lv_at hl 0 rfl) ?_
  refine lv_sipush (v := 1024) hx hb dX9_init_59 (by decide) ?_
  refine va_newa (ty := .long) (n := 1024) (N' := 1024) (a0 := (1024, .inr (.inl (fun _ => 0)))) hx hb (ow (k := 11) rfl) rfl hK hP hD hS hA (fun _ => rfl) (by decide) (by decide) (by decide) (Nat.le_of_ble_eq_true rfl) (Nat.le_of_ble_eq_true rfl) dX9_init_62 (fun q_13 cA_14 H hK hP hD hS => ?_)
  have hP : va_P (dC, dI) vwP [(h0, .inr (9, [.ref q_1, .ref q_3, .ref q_5, .ref q_7, .ref q_9, .ref q_11, .null, .int 0, .int 0])), (q_13, .inl (cA_14, 1024, .inr (.inl (fun _ => 0))))] H := hP
  have hD : va_D A [(h0, .inr (9, [.ref q_1, .ref q_3, .ref q_5, .ref q_7, .ref q_9, .ref q_11, .null, .int 0, .int 0])), (q_13, .inl (cA_14, 1024, .inr (.inl (fun _ => 0))))] := hD
  have hK : va_K (dC, dI) vwP [(cA_14, .long)] s := hK
  refine W.widen (k := 7) (n := 3548) (Nat.le_of_ble_eq_true rfl) (Nat.le_of_ble_eq_true rfl) ?_
  refine va_putF (D := (dC, dI)) (ci := 9) (v := .ref q_13) (ty := .array .long) (C := RX9) (T := TX9) (N := 9) hx hb hts mem_X9_init_0 tyX9 tyX9_ok nmX9 hown hK hP hD hS 0 rfl rfl 6 (by decide) (ow (k := 12) rfl) (fun _ h9 => h9) rfl hin rfl (by decide +kernel) rfl rfl (Nat.le_of_ble_eq_true rfl) dX9_init_64 (fun H locs hP hD hS => ?_)
  have hP : va_P (dC, dI) vwP [(h0, .inr (9, [.ref q_1, .ref q_3, .ref q_5, .ref q_7, .ref q_9, .ref q_11, .ref q_13, .int 0, .int 0])), (q_13, .inl (cA_14, 1024, .inr (.inl (fun _ => 0))))] H := hP
  have hD : va_D A [(h0, .inr (9, [.ref q_1, .ref q_3, .ref q_5, .ref q_7, .ref q_9, .ref q_11, .ref q_13, .int 0, .int 0])), (q_13, .inl (cA_14, 1024, .inr (.inl (fun _ => 0))))] := hD
  have hP := hP.sub (ws' := [(h0, .inr (9, [.ref q_1, .ref q_3, .ref q_5, .ref q_7, .ref q_9, .ref q_11, .ref q_13, .int 0, .int 0]))]) [0] rfl
  have hD := hD.sub (ws' := [(h0, .inr (9, [.ref q_1, .ref q_3, .ref q_5, .ref q_7, .ref q_9, .ref q_11, .ref q_13, .int 0, .int 0]))]) [0] (by decide) rfl
  have hK := hK.sub (tys' := []) [] rfl
  refine lv_aload_n hx hb dX9_init_67 rfl (lv_at hl 0 rfl) ?_
  refine lv_iconst (v := 0) hx hb dX9_init_68 (by decide) ?_
  refine va_put (D := (dC, dI)) (ci := 9) (v := .int 0) (ty := .boolean) (C := RX9) (T := TX9) (N := 9) hx hb hts mem_X9_init_0 tyX9 tyX9_ok nmX9 hown hK hP hD hS 0 rfl rfl 7 (by decide) (ow (k := 13) rfl) (fun _ h9 => h9) rfl (by decide +kernel) rfl rfl (Nat.le_of_ble_eq_true rfl) dX9_init_69 (fun H locs hP hD hS => ?_)
  have hP : va_P (dC, dI) vwP [(h0, .inr (9, [.ref q_1, .ref q_3, .ref q_5, .ref q_7, .ref q_9, .ref q_11, .ref q_13, .int 0, .int 0]))] H := hP
  have hD : va_D A [(h0, .inr (9, [.ref q_1, .ref q_3, .ref q_5, .ref q_7, .ref q_9, .ref q_11, .ref q_13, .int 0, .int 0]))] := hD
  refine lv_aload_n hx hb dX9_init_72 rfl (lv_at hl 0 rfl) ?_
  refine lv_iconst (v := 0) hx hb dX9_init_73 (by decide) ?_
  refine va_put (D := (dC, dI)) (ci := 9) (v := .int 0) (ty := .int) (C := RX9) (T := TX9) (N := 9) hx hb hts mem_X9_init_0 tyX9 tyX9_ok nmX9 hown hK hP hD hS 0 rfl rfl 8 (by decide) (ow (k := 14) rfl) (fun _ h9 => h9) rfl (by decide +kernel) rfl rfl (Nat.le_of_ble_eq_true rfl) dX9_init_74 (fun H locs hP hD hS => ?_)
  have hP : va_P (dC, dI) vwP [(h0, .inr (9, [.ref q_1, .ref q_3, .ref q_5, .ref q_7, .ref q_9, .ref q_11, .ref q_13, .int 0, .int 0]))] H := hP
  have hD : va_D A [(h0, .inr (9, [.ref q_1, .ref q_3, .ref q_5, .ref q_7, .ref q_9, .ref q_11, .ref q_13, .int 0, .int 0]))] := hD
  refine W.widen (k := 7) (n := 3548) (Nat.le_of_ble_eq_true rfl) (Nat.le_of_ble_eq_true rfl) ?_
  exact W.vret hx hb hr (fun t ht hW => ⟨⟨(), rfl, trivial, q_1, q_3, q_5, q_7, q_9, q_11, q_13, by rw [ht]; exact hP, va_K.moved hW.alike hK, hD⟩, hS.F ht⟩) hS.2.2 dX9_init_77
theorem dX10_init_0 : decode cX10_init 0 = .ok (.aload_n 0, 1) := by decide +kernel
theorem dX10_init_1 : decode cX10_init 1 = .ok (.invokespecial 3, 3) := by decide +kernel
theorem dX10_init_4 : decode cX10_init 4 = .ok (.aload_n 0, 1) := by decide +kernel
theorem dX10_init_5 : decode cX10_init 5 = .ok (.sipush 1024, 3) := by decide +kernel
theorem dX10_init_8 : decode cX10_init 8 = .ok (.newarray .int, 2) := by decide +kernel
theorem dX10_init_10 : decode cX10_init 10 = .ok (.putfield 9, 3) := by decide +kernel
theorem dX10_init_13 : decode cX10_init 13 = .ok (.aload_n 0, 1) := by decide +kernel
theorem dX10_init_14 : decode cX10_init 14 = .ok (.sipush 1024, 3) := by decide +kernel
theorem dX10_init_17 : decode cX10_init 17 = .ok (.newarray .int, 2) := by decide +kernel
theorem dX10_init_19 : decode cX10_init 19 = .ok (.putfield 15, 3) := by decide +kernel
theorem dX10_init_22 : decode cX10_init 22 = .ok (.aload_n 0, 1) := by decide +kernel
theorem dX10_init_23 : decode cX10_init 23 = .ok (.sipush 2000, 3) := by decide +kernel
theorem dX10_init_26 : decode cX10_init 26 = .ok (.newarray .int, 2) := by decide +kernel
theorem dX10_init_28 : decode cX10_init 28 = .ok (.putfield 18, 3) := by decide +kernel
theorem dX10_init_31 : decode cX10_init 31 = .ok (.aload_n 0, 1) := by decide +kernel
theorem dX10_init_32 : decode cX10_init 32 = .ok (.bipush 16, 2) := by decide +kernel
theorem dX10_init_34 : decode cX10_init 34 = .ok (.newarray .long, 2) := by decide +kernel
theorem dX10_init_36 : decode cX10_init 36 = .ok (.putfield 21, 3) := by decide +kernel
theorem dX10_init_39 : decode cX10_init 39 = .ok (.aload_n 0, 1) := by decide +kernel
theorem dX10_init_40 : decode cX10_init 40 = .ok (.iconst 0, 1) := by decide +kernel
theorem dX10_init_41 : decode cX10_init 41 = .ok (.putfield 25, 3) := by decide +kernel
theorem dX10_init_44 : decode cX10_init 44 = .ok (.aload_n 0, 1) := by decide +kernel
theorem dX10_init_45 : decode cX10_init 45 = .ok (.iconst 0, 1) := by decide +kernel
theorem dX10_init_46 : decode cX10_init 46 = .ok (.putfield 29, 3) := by decide +kernel
theorem dX10_init_49 : decode cX10_init 49 = .ok (.aload_n 0, 1) := by decide +kernel
theorem dX10_init_50 : decode cX10_init 50 = .ok (.iconst 0, 1) := by decide +kernel
theorem dX10_init_51 : decode cX10_init 51 = .ok (.putfield 32, 3) := by decide +kernel
theorem dX10_init_54 : decode cX10_init 54 = .ok (.aload_n 0, 1) := by decide +kernel
theorem dX10_init_55 : decode cX10_init 55 = .ok (.sipush 1024, 3) := by decide +kernel
theorem dX10_init_58 : decode cX10_init 58 = .ok (.newarray .boolean, 2) := by decide +kernel
theorem dX10_init_60 : decode cX10_init 60 = .ok (.putfield 35, 3) := by decide +kernel
theorem dX10_init_63 : decode cX10_init 63 = .ok (.aload_n 0, 1) := by decide +kernel
theorem dX10_init_64 : decode cX10_init 64 = .ok (.sipush 1000, 3) := by decide +kernel
theorem dX10_init_67 : decode cX10_init 67 = .ok (.newarray .int, 2) := by decide +kernel
theorem dX10_init_69 : decode cX10_init 69 = .ok (.putfield 39, 3) := by decide +kernel
theorem dX10_init_72 : decode cX10_init 72 = .ok (.aload_n 0, 1) := by decide +kernel
theorem dX10_init_73 : decode cX10_init 73 = .ok (.sipush 1000, 3) := by decide +kernel
theorem dX10_init_76 : decode cX10_init 76 = .ok (.newarray .long, 2) := by decide +kernel
theorem dX10_init_78 : decode cX10_init 78 = .ok (.putfield 42, 3) := by decide +kernel
theorem dX10_init_81 : decode cX10_init 81 = .ok (.aload_n 0, 1) := by decide +kernel
theorem dX10_init_82 : decode cX10_init 82 = .ok (.sipush 1000, 3) := by decide +kernel
theorem dX10_init_85 : decode cX10_init 85 = .ok (.newarray .boolean, 2) := by decide +kernel
theorem dX10_init_87 : decode cX10_init 87 = .ok (.putfield 45, 3) := by decide +kernel
theorem dX10_init_90 : decode cX10_init 90 = .ok (.aload_n 0, 1) := by decide +kernel
theorem dX10_init_91 : decode cX10_init 91 = .ok (.sipush 1024, 3) := by decide +kernel
theorem dX10_init_94 : decode cX10_init 94 = .ok (.newarray .int, 2) := by decide +kernel
theorem dX10_init_96 : decode cX10_init 96 = .ok (.putfield 48, 3) := by decide +kernel
theorem dX10_init_99 : decode cX10_init 99 = .ok (.aload_n 0, 1) := by decide +kernel
theorem dX10_init_100 : decode cX10_init 100 = .ok (.iconst 0, 1) := by decide +kernel
theorem dX10_init_101 : decode cX10_init 101 = .ok (.putfield 51, 3) := by decide +kernel
theorem dX10_init_104 : decode cX10_init 104 = .ok (.aload_n 0, 1) := by decide +kernel
theorem dX10_init_105 : decode cX10_init 105 = .ok (.iconst 0, 1) := by decide +kernel
theorem dX10_init_106 : decode cX10_init 106 = .ok (.putfield 54, 3) := by decide +kernel
theorem dX10_init_109 : decode cX10_init 109 = .ok (.return_, 1) := by decide +kernel
def o_X10_init : List Cond := [.methodLink RX10 3 objectInit, .instanceMethod objectInit, .code objectInit ⟨#[0xb1]⟩ 1 none, .arrayClass .int, .fieldLink RX10 9 "SsaForge$WayOut" "colour" "[I", .fieldLink RX10 15 "SsaForge$WayOut" "busy" "[I", .fieldLink RX10 18 "SsaForge$WayOut" "rowFlags" "[I", .arrayClass .long, .fieldLink RX10 21 "SsaForge$WayOut" "now" "[J", .fieldLink RX10 25 "SsaForge$WayOut" "words" "I", .fieldLink RX10 29 "SsaForge$WayOut" "stamp" "I", .fieldLink RX10 32 "SsaForge$WayOut" "colours" "I", .arrayClass .boolean, .fieldLink RX10 35 "SsaForge$WayOut" "present" "[Z", .fieldLink RX10 39 "SsaForge$WayOut" "moveTo" "[I", .fieldLink RX10 42 "SsaForge$WayOut" "moveFrom" "[J", .fieldLink RX10 45 "SsaForge$WayOut" "moved" "[Z", .fieldLink RX10 48 "SsaForge$WayOut" "waiting" "[I", .fieldLink RX10 51 "SsaForge$WayOut" "moves" "I", .fieldLink RX10 54 "SsaForge$WayOut" "helper" "I"]
def v_X10_init : List Cond := .code yX10_init cX10_init 1 none :: (o_X10_init ++ (wsX100 ++ []))
theorem mow_X10_init : ∀ w ∈ o_X10_init, w ∈ v_X10_init := fun _ h => List.mem_cons_of_mem _ (List.mem_append_left _ h)
theorem mem_X10_init_0 : ∀ w ∈ wsX100, w ∈ v_X10_init := fun _ h => List.mem_cons_of_mem _ (List.mem_append_right _ (List.mem_append_left _ h))
set_option maxRecDepth 20000 in
theorem gw_X10_init : v_X10_init.all goodWord = true := by decide +kernel
set_option maxHeartbeats 4000000 in
set_option maxRecDepth 100000 in
theorem c_X10_init (l : Launch) (dC : Nat → ClassId) (dI : Nat → Nat → Nat) (h0 : Nat) (sz : Nat) : Met l yX10_init v_X10_init ({ frames := 1, cells := 9, slots := 9112, locals := 12 }) (va_Pc [.ref h0] (fun U => U.heap.size = sz ∧ va_P (dC, dI) vwP [(h0, .inr (10, [.null, .null, .null, .null, .int 0, .int 0, .int 0, .null, .null, .null, .null, .null, .int 0, .int 0]))] U.heap ∧ va_K (dC, dI) vwP [] U ∧ va_D (fun _ => True) [(h0, .inr (10, [.null, .null, .null, .null, .int 0, .int 0, .int 0, .null, .null, .null, .null, .null, .int 0, .int 0]))])) (va_Qv (fun _ : Unit => True) (fun (_ : Unit) (t : State) => ∃ (q_1 : Nat) (q_3 : Nat) (q_5 : Nat) (q_7 : Nat) (q_9 : Nat) (q_11 : Nat) (q_13 : Nat) (q_15 : Nat) (q_17 : Nat), va_P (dC, dI) vwP [(h0, .inr (10, [.ref q_1, .ref q_3, .ref q_5, .ref q_7, .int 0, .int 0, .int 0, .ref q_9, .ref q_11, .ref q_13, .ref q_15, .ref q_17, .int 0, .int 0]))] t.heap ∧ va_K (dC, dI) vwP [] t ∧ va_D (va_A [(h0, .inr (10, [.null, .null, .null, .null, .int 0, .int 0, .int 0, .null, .null, .null, .null, .null, .int 0, .int 0]))] sz) [(h0, .inr (10, [.ref q_1, .ref q_3, .ref q_5, .ref q_7, .int 0, .int 0, .int 0, .ref q_9, .ref q_11, .ref q_13, .ref q_15, .ref q_17, .int 0, .int 0]))]) (va_A [(h0, .inr (10, [.null, .null, .null, .null, .int 0, .int 0, .int 0, .null, .null, .null, .null, .null, .int 0, .int 0]))] sz)) 9 9112 (va_A [(h0, .inr (10, [.null, .null, .null, .null, .int 0, .int 0, .int 0, .null, .null, .null, .null, .null, .int 0, .int 0]))] sz) := by
  refine Met.ofW (cc := cX10_init) (maxL := 1) (ret := none) (by decide) rfl ?_
  intro p e s m args below meth c s₁ B hml hv
  obtain ⟨rfl, hsz, hP, hK, hD0⟩ := hv
  have hx := B.exec
  have hb := B.bytes
  have hr := B.returns
  have hts := atoms_spec (ws := v_X10_init) B.pre
  have hown : s.vm.findClass RX10 = some m.cls := findClass_of_methodNamed B.named
  have hlocks := B.notSynchronized
  have ow : ∀ {k : Nat} {w : Cond}, o_X10_init[k]? = some w → w.before ([.ref h0] : List Value).toArray s = true := fun h => hts _ (mow_X10_init _ (List.mem_of_getElem? h))
  have hin : meth.name = "<init>" := (name_of_methodNamed B.named B.method).1
  subst hsz
  have hD := hD0.self (sz := s.heap.size)
  generalize hAe : va_A [(h0, .inr (10, [.null, .null, .null, .null, .int 0, .int 0, .int 0, .null, .null, .null, .null, .null, .int 0, .int 0]))] s.heap.size = A at hD ⊢
  have hA : ∀ q : Nat, s.heap.size ≤ q → A q := fun q h => by rw [← hAe]; exact Or.inr h
  have hS : va_S A s.heap s.heap [] := va_S.rf
  have hP : va_P (dC, dI) vwP [(h0, .inr (10, [.null, .null, .null, .null, .int 0, .int 0, .int 0, .null, .null, .null, .null, .null, .int 0, .int 0]))] s.heap := hP
  have hl := lv_entry ([.ref h0]) (n := 1) (Nat.le_of_ble_eq_true rfl)
  rw [lg_entry_eq]
  generalize (lg_sl ([.ref h0]) ++ List.replicate (1 - (lg_sl ([.ref h0])).length) Slot.unset).toArray = ls at hl ⊢
  have hl : lv_has ls 1 [(0, .ref h0)] := hl
  obtain ⟨H, hH⟩ : ∃ H, H = s.heap := ⟨_, rfl⟩
  rw [← hH] at hP
  have hS : va_S A s.heap H [] := by rw [hH]; exact hS
  rw [← hH]
  refine lv_aload_n hx hb dX10_init_0 rfl (lv_at hl 0 rfl) ?_
  refine W.objInit hx hb hown (ow (k := 0) rfl) (ow (k := 1) rfl) (ow (k := 2) rfl) rfl (by rw [hml]; exact hl.1) rfl dX10_init_1 (Nat.le_of_ble_eq_true rfl) (Nat.le_of_ble_eq_true rfl) ?_
  refine W.eq (g2 := F0 m 4 ls []) rfl ?_
  refine lv_aload_n hx hb dX10_init_4 rfl (lv_at hl 0 rfl) ?_
  refine lv_sipush (v := 1024) hx hb dX10_init_5 (by decide) ?_
  refine va_newa (ty := .int) (n := 1024) (N' := 1024) (a0 := (1024, .inl (fun _ => 0))) hx hb (ow (k := 3) rfl) rfl hK hP hD hS hA (fun _ => rfl) (by decide) (by decide) (by decide) (Nat.le_of_ble_eq_true rfl) (Nat.le_of_ble_eq_true rfl) dX10_init_8 (fun q_1 cA_2 H hK hP hD hS => ?_)
  have hP : va_P (dC, dI) vwP [(h0, .inr (10, [.null, .null, .null, .null, .int 0, .int 0, .int 0, .null, .null, .null, .null, .null, .int 0, .int 0])), (q_1, .inl (cA_2, 1024, .inl (fun _ => 0)))] H := hP
  have hD : va_D A [(h0, .inr (10, [.null, .null, .null, .null, .int 0, .int 0, .int 0, .null, .null, .null, .null, .null, .int 0, .int 0])), (q_1, .inl (cA_2, 1024, .inl (fun _ => 0)))] := hD
  have hK : va_K (dC, dI) vwP [(cA_2, .int)] s := hK
  refine W.widen (k := 1) (n := 1024) (Nat.le_of_ble_eq_true rfl) (Nat.le_of_ble_eq_true rfl) ?_
  refine va_putF (D := (dC, dI)) (ci := 10) (v := .ref q_1) (ty := .array .int) (C := RX10) (T := TX10) (N := 14) hx hb hts mem_X10_init_0 tyX10 tyX10_ok nmX10 hown hK hP hD hS 0 rfl rfl 0 (by decide) (ow (k := 4) rfl) (fun _ h9 => h9) rfl hin rfl (by decide +kernel) rfl rfl (Nat.le_of_ble_eq_true rfl) dX10_init_10 (fun H locs hP hD hS => ?_)
  have hP : va_P (dC, dI) vwP [(h0, .inr (10, [.ref q_1, .null, .null, .null, .int 0, .int 0, .int 0, .null, .null, .null, .null, .null, .int 0, .int 0])), (q_1, .inl (cA_2, 1024, .inl (fun _ => 0)))] H := hP
  have hD : va_D A [(h0, .inr (10, [.ref q_1, .null, .null, .null, .int 0, .int 0, .int 0, .null, .null, .null, .null, .null, .int 0, .int 0])), (q_1, .inl (cA_2, 1024, .inl (fun _ => 0)))] := hD
  have hP := hP.sub (ws' := [(h0, .inr (10, [.ref q_1, .null, .null, .null, .int 0, .int 0, .int 0, .null, .null, .null, .null, .null, .int 0, .int 0]))]) [0] rfl
  have hD := hD.sub (ws' := [(h0, .inr (10, [.ref q_1, .null, .null, .null, .int 0, .int 0, .int 0, .null, .null, .null, .null, .null, .int 0, .int 0]))]) [0] (by decide) rfl
  have hK := hK.sub (tys' := []) [] rfl
  refine lv_aload_n hx hb dX10_init_13 rfl (lv_at hl 0 rfl) ?_
  refine lv_sipush (v := 1024) hx hb dX10_init_14 (by decide) ?_
  refine va_newa (ty := .int) (n := 1024) (N' := 1024) (a0 := (1024, .inl (fun _ => 0))) hx hb (ow (k := 3) rfl) rfl hK hP hD hS hA (fun _ => rfl) (by decide) (by decide) (by decide) (Nat.le_of_ble_eq_true rfl) (Nat.le_of_ble_eq_true rfl) dX10_init_17 (fun q_3 cA_4 H hK hP hD hS => ?_)
  have hP : va_P (dC, dI) vwP [(h0, .inr (10, [.ref q_1, .null, .null, .null, .int 0, .int 0, .int 0, .null, .null, .null, .null, .null, .int 0, .int 0])), (q_3, .inl (cA_4, 1024, .inl (fun _ => 0)))] H := hP
  have hD : va_D A [(h0, .inr (10, [.ref q_1, .null, .null, .null, .int 0, .int 0, .int 0, .null, .null, .null, .null, .null, .int 0, .int 0])), (q_3, .inl (cA_4, 1024, .inl (fun _ => 0)))] := hD
  have hK : va_K (dC, dI) vwP [(cA_4, .int)] s := hK
  refine W.widen (k := 2) (n := 2048) (Nat.le_of_ble_eq_true rfl) (Nat.le_of_ble_eq_true rfl) ?_
  refine va_putF (D := (dC, dI)) (ci := 10) (v := .ref q_3) (ty := .array .int) (C := RX10) (T := TX10) (N := 14) hx hb hts mem_X10_init_0 tyX10 tyX10_ok nmX10 hown hK hP hD hS 0 rfl rfl 1 (by decide) (ow (k := 5) rfl) (fun _ h9 => h9) rfl hin rfl (by decide +kernel) rfl rfl (Nat.le_of_ble_eq_true rfl) dX10_init_19 (fun H locs hP hD hS => ?_)
  have hP : va_P (dC, dI) vwP [(h0, .inr (10, [.ref q_1, .ref q_3, .null, .null, .int 0, .int 0, .int 0, .null, .null, .null, .null, .null, .int 0, .int 0])), (q_3, .inl (cA_4, 1024, .inl (fun _ => 0)))] H := hP
  have hD : va_D A [(h0, .inr (10, [.ref q_1, .ref q_3, .null, .null, .int 0, .int 0, .int 0, .null, .null, .null, .null, .null, .int 0, .int 0])), (q_3, .inl (cA_4, 1024, .inl (fun _ => 0)))] := hD
  have hP := hP.sub (ws' := [(h0, .inr (10, [.ref q_1, .ref q_3, .null, .null, .int 0, .int 0, .int 0, .null, .null, .null, .null, .null, .int 0, .int 0]))]) [0] rfl
  have hD := hD.sub (ws' := [(h0, .inr (10, [.ref q_1, .ref q_3, .null, .null, .int 0, .int 0, .int 0, .null, .null, .null, .null, .null, .int 0, .int 0]))]) [0] (by decide) rfl
  have hK := hK.sub (tys' := []) [] rfl
  refine lv_aload_n hx hb dX10_init_22 rfl (lv_at hl 0 rfl) ?_
  refine lv_sipush (v := 2000) hx hb dX10_init_23 (by decide) ?_
  refine va_newa (ty := .int) (n := 2000) (N' := 2000) (a0 := (2000, .inl (fun _ => 0))) hx hb (ow (k := 3) rfl) rfl hK hP hD hS hA (fun _ => rfl) (by decide) (by decide) (by decide) (Nat.le_of_ble_eq_true rfl) (Nat.le_of_ble_eq_true rfl) dX10_init_26 (fun q_5 cA_6 H hK hP hD hS => ?_)
  have hP : va_P (dC, dI) vwP [(h0, .inr (10, [.ref q_1, .ref q_3, .null, .null, .int 0, .int 0, .int 0, .null, .null, .null, .null, .null, .int 0, .int 0])), (q_5, .inl (cA_6, 2000, .inl (fun _ => 0)))] H := hP
  have hD : va_D A [(h0, .inr (10, [.ref q_1, .ref q_3, .null, .null, .int 0, .int 0, .int 0, .null, .null, .null, .null, .null, .int 0, .int 0])), (q_5, .inl (cA_6, 2000, .inl (fun _ => 0)))] := hD
  have hK : va_K (dC, dI) vwP [(cA_6, .int)] s := hK
  refine W.widen (k := 3) (n := 4048) (Nat.le_of_ble_eq_true rfl) (Nat.le_of_ble_eq_true rfl) ?_
  refine va_putF (D := (dC, dI)) (ci := 10) (v := .ref q_5) (ty := .array .int) (C := RX10) (T := TX10) (N := 14) hx hb hts mem_X10_init_0 tyX10 tyX10_ok nmX10 hown hK hP hD hS 0 rfl rfl 2 (by decide) (ow (k := 6) rfl) (fun _ h9 => h9) rfl hin rfl (by decide +kernel) rfl rfl (Nat.le_of_ble_eq_true rfl) dX10_init_28 (fun H locs hP hD hS => ?_)
  have hP : va_P (dC, dI) vwP [(h0, .inr (10, [.ref q_1, .ref q_3, .ref q_5, .null, .int 0, .int 0, .int 0, .null, .null, .null, .null, .null, .int 0, .int 0])), (q_5, .inl (cA_6, 2000, .inl (fun _ => 0)))] H := hP
  have hD : va_D A [(h0, .inr (10, [.ref q_1, .ref q_3, .ref q_5, .null, .int 0, .int 0, .int 0, .null, .null, .null, .null, .null, .int 0, .int 0])), (q_5, .inl (cA_6, 2000, .inl (fun _ => 0)))] := hD
  have hP := hP.sub (ws' := [(h0, .inr (10, [.ref q_1, .ref q_3, .ref q_5, .null, .int 0, .int 0, .int 0, .null, .null, .null, .null, .null, .int 0, .int 0]))]) [0] rfl
  have hD := hD.sub (ws' := [(h0, .inr (10, [.ref q_1, .ref q_3, .ref q_5, .null, .int 0, .int 0, .int 0, .null, .null, .null, .null, .null, .int 0, .int 0]))]) [0] (by decide) rfl
  have hK := hK.sub (tys' := []) [] rfl
  refine lv_aload_n hx hb dX10_init_31 rfl (lv_at hl 0 rfl) ?_
  refine lv_bipush (v := 16) hx hb dX10_init_32 (by decide) ?_
  refine va_newa (ty := .long) (n := 16) (N' := 16) (a0 := (16, .inr (.inl (fun _ => 0)))) hx hb (ow (k := 7) rfl) rfl hK hP hD hS hA (fun _ => rfl) (by decide) (by decide) (by decide) (Nat.le_of_ble_eq_true rfl) (Nat.le_of_ble_eq_true rfl) dX10_init_34 (fun q_7 cA_8 H hK hP hD hS => ?_)
  have hP : va_P (dC, dI) vwP [(h0, .inr (10, [.ref q_1, .ref q_3, .ref q_5, .null, .int 0, .int 0, .int 0, .null, .null, .null, .null, .null, .int 0, .int 0])), (q_7, .inl (cA_8, 16, .inr (.inl (fun _ => 0))))] H := hP
  have hD : va_D A [(h0, .inr (10, [.ref q_1, .ref q_3, .ref q_5, .null, .int 0, .int 0, .int 0, .null, .null, .null, .null, .null, .int 0, .int 0])), (q_7, .inl (cA_8, 16, .inr (.inl (fun _ => 0))))] := hD
  have hK : va_K (dC, dI) vwP [(cA_8, .long)] s := hK
  refine W.widen (k := 4) (n := 4064) (Nat.le_of_ble_eq_true rfl) (Nat.le_of_ble_eq_true rfl) ?_
  refine va_putF (D := (dC, dI)) (ci := 10) (v := .ref q_7) (ty := .array .long) (C := RX10) (T := TX10) (N := 14) hx hb hts mem_X10_init_0 tyX10 tyX10_ok nmX10 hown hK hP hD hS 0 rfl rfl 3 (by decide) (ow (k := 8) rfl) (fun _ h9 => h9) rfl hin rfl (by decide +kernel) rfl rfl (Nat.le_of_ble_eq_true rfl) dX10_init_36 (fun H locs hP hD hS => ?_)
  have hP : va_P (dC, dI) vwP [(h0, .inr (10, [.ref q_1, .ref q_3, .ref q_5, .ref q_7, .int 0, .int 0, .int 0, .null, .null, .null, .null, .null, .int 0, .int 0])), (q_7, .inl (cA_8, 16, .inr (.inl (fun _ => 0))))] H := hP
  have hD : va_D A [(h0, .inr (10, [.ref q_1, .ref q_3, .ref q_5, .ref q_7, .int 0, .int 0, .int 0, .null, .null, .null, .null, .null, .int 0, .int 0])), (q_7, .inl (cA_8, 16, .inr (.inl (fun _ => 0))))] := hD
  have hP := hP.sub (ws' := [(h0, .inr (10, [.ref q_1, .ref q_3, .ref q_5, .ref q_7, .int 0, .int 0, .int 0, .null, .null, .null, .null, .null, .int 0, .int 0]))]) [0] rfl
  have hD := hD.sub (ws' := [(h0, .inr (10, [.ref q_1, .ref q_3, .ref q_5, .ref q_7, .int 0, .int 0, .int 0, .null, .null, .null, .null, .null, .int 0, .int 0]))]) [0] (by decide) rfl
  have hK := hK.sub (tys' := []) [] rfl
  refine lv_aload_n hx hb dX10_init_39 rfl (lv_at hl 0 rfl) ?_
  refine lv_iconst (v := 0) hx hb dX10_init_40 (by decide) ?_
  refine va_put (D := (dC, dI)) (ci := 10) (v := .int 0) (ty := .int) (C := RX10) (T := TX10) (N := 14) hx hb hts mem_X10_init_0 tyX10 tyX10_ok nmX10 hown hK hP hD hS 0 rfl rfl 4 (by decide) (ow (k := 9) rfl) (fun _ h9 => h9) rfl (by decide +kernel) rfl rfl (Nat.le_of_ble_eq_true rfl) dX10_init_41 (fun H locs hP hD hS => ?_)
  have hP : va_P (dC, dI) vwP [(h0, .inr (10, [.ref q_1, .ref q_3, .ref q_5, .ref q_7, .int 0, .int 0, .int 0, .null, .null, .null, .null, .null, .int 0, .int 0]))] H := hP
  have hD : va_D A [(h0, .inr (10, [.ref q_1, .ref q_3, .ref q_5, .ref q_7, .int 0, .int 0, .int 0, .null, .null, .null, .null, .null, .int 0, .int 0]))] := hD
  refine lv_aload_n hx hb dX10_init_44 rfl (lv_at hl 0 rfl) ?_
  refine lv_iconst (v := 0) hx hb dX10_init_45 (by decide) ?_
  refine va_put (D := (dC, dI)) (ci := 10) (v := .int 0) (ty := .int) (C := RX10) (T := TX10) (N := 14) hx hb hts mem_X10_init_0 tyX10 tyX10_ok nmX10 hown hK hP hD hS 0 rfl rfl 5 (by decide) (ow (k := 10) rfl) (fun _ h9 => h9) rfl (by decide +kernel) rfl rfl (Nat.le_of_ble_eq_true rfl) dX10_init_46 (fun H locs hP hD hS => ?_)
  have hP : va_P (dC, dI) vwP [(h0, .inr (10, [.ref q_1, .ref q_3, .ref q_5, .ref q_7, .int 0, .int 0, .int 0, .null, .null, .null, .null, .null, .int 0, .int 0]))] H := hP
  have hD : va_D A [(h0, .inr (10, [.ref q_1, .ref q_3, .ref q_5, .ref q_7, .int 0, .int 0, .int 0, .null, .null, .null, .null, .null, .int 0, .int 0]))] := hD
  refine lv_aload_n hx hb dX10_init_49 rfl (lv_at hl 0 rfl) ?_
  refine lv_iconst (v := 0) hx hb dX10_init_50 (by decide) ?_
  refine va_put (D := (dC, dI)) (ci := 10) (v := .int 0) (ty := .int) (C := RX10) (T := TX10) (N := 14) hx hb hts mem_X10_init_0 tyX10 tyX10_ok nmX10 hown hK hP hD hS 0 rfl rfl 6 (by decide) (ow (k := 11) rfl) (fun _ h9 => h9) rfl (by decide +kernel) rfl rfl (Nat.le_of_ble_eq_true rfl) dX10_init_51 (fun H locs hP hD hS => ?_)
  have hP : va_P (dC, dI) vwP [(h0, .inr (10, [.ref q_1, .ref q_3, .ref q_5, .ref q_7, .int 0, .int 0, .int 0, .null, .null, .null, .null, .null, .int 0, .int 0]))] H := hP
  have hD : va_D A [(h0, .inr (10, [.ref q_1, .ref q_3, .ref q_5, .ref q_7, .int 0, .int 0, .int 0, .null, .null, .null, .null, .null, .int 0, .int 0]))] := hD
  refine lv_aload_n hx hb dX10_init_54 rfl (lv_at hl 0 rfl) ?_
  refine lv_sipush (v := 1024) hx hb dX10_init_55 (by decide) ?_
  refine va_newa (ty := .boolean) (n := 1024) (N' := 1024) (a0 := (1024, .inl (fun _ => 0))) hx hb (ow (k := 12) rfl) rfl hK hP hD hS hA (fun _ => rfl) (by decide) (by decide) (by decide) (Nat.le_of_ble_eq_true rfl) (Nat.le_of_ble_eq_true rfl) dX10_init_58 (fun q_9 cA_10 H hK hP hD hS => ?_)
  have hP : va_P (dC, dI) vwP [(h0, .inr (10, [.ref q_1, .ref q_3, .ref q_5, .ref q_7, .int 0, .int 0, .int 0, .null, .null, .null, .null, .null, .int 0, .int 0])), (q_9, .inl (cA_10, 1024, .inl (fun _ => 0)))] H := hP
  have hD : va_D A [(h0, .inr (10, [.ref q_1, .ref q_3, .ref q_5, .ref q_7, .int 0, .int 0, .int 0, .null, .null, .null, .null, .null, .int 0, .int 0])), (q_9, .inl (cA_10, 1024, .inl (fun _ => 0)))] := hD
  have hK : va_K (dC, dI) vwP [(cA_10, .boolean)] s := hK
  refine W.widen (k := 5) (n := 5088) (Nat.le_of_ble_eq_true rfl) (Nat.le_of_ble_eq_true rfl) ?_
  refine va_putF (D := (dC, dI)) (ci := 10) (v := .ref q_9) (ty := .array .boolean) (C := RX10) (T := TX10) (N := 14) hx hb hts mem_X10_init_0 tyX10 tyX10_ok nmX10 hown hK hP hD hS 0 rfl rfl 7 (by decide) (ow (k := 13) rfl) (fun _ h9 => h9) rfl hin rfl (by decide +kernel) rfl rfl (Nat.le_of_ble_eq_true rfl) dX10_init_60 (fun H locs hP hD hS => ?_)
  have hP : va_P (dC, dI) vwP [(h0, .inr (10, [.ref q_1, .ref q_3, .ref q_5, .ref q_7, .int 0, .int 0, .int 0, .ref q_9, .null, .null, .null, .null, .int 0, .int 0])), (q_9, .inl (cA_10, 1024, .inl (fun _ => 0)))] H := hP
  have hD : va_D A [(h0, .inr (10, [.ref q_1, .ref q_3, .ref q_5, .ref q_7, .int 0, .int 0, .int 0, .ref q_9, .null, .null, .null, .null, .int 0, .int 0])), (q_9, .inl (cA_10, 1024, .inl (fun _ => 0)))] := hD
  have hP := hP.sub (ws' := [(h0, .inr (10, [.ref q_1, .ref q_3, .ref q_5, .ref q_7, .int 0, .int 0, .int 0, .ref q_9, .null, .null, .null, .null, .int 0, .int 0]))]) [0] rfl
  have hD := hD.sub (ws' := [(h0, .inr (10, [.ref q_1, .ref q_3, .ref q_5, .ref q_7, .int 0, .int 0, .int 0, .ref q_9, .null, .null, .null, .null, .int 0, .int 0]))]) [0] (by decide) rfl
  have hK := hK.sub (tys' := []) [] rfl
  refine lv_aload_n hx hb dX10_init_63 rfl (lv_at hl 0 rfl) ?_
  refine lv_sipush (v := 1000) hx hb dX10_init_64 (by decide) ?_
  refine va_newa (ty := .int) (n := 1000) (N' := 1000) (a0 := (1000, .inl (fun _ => 0))) hx hb (ow (k := 3) rfl) rfl hK hP hD hS hA (fun _ => rfl) (by decide) (by decide) (by decide) (Nat.le_of_ble_eq_true rfl) (Nat.le_of_ble_eq_true rfl) dX10_init_67 (fun q_11 cA_12 H hK hP hD hS => ?_)
  have hP : va_P (dC, dI) vwP [(h0, .inr (10, [.ref q_1, .ref q_3, .ref q_5, .ref q_7, .int 0, .int 0, .int 0, .ref q_9, .null, .null, .null, .null, .int 0, .int 0])), (q_11, .inl (cA_12, 1000, .inl (fun _ => 0)))] H := hP
  have hD : va_D A [(h0, .inr (10, [.ref q_1, .ref q_3, .ref q_5, .ref q_7, .int 0, .int 0, .int 0, .ref q_9, .null, .null, .null, .null, .int 0, .int 0])), (q_11, .inl (cA_12, 1000, .inl (fun _ => 0)))] := hD
  have hK : va_K (dC, dI) vwP [(cA_12, .int)] s := hK
  refine W.widen (k := 6) (n := 6088) (Nat.le_of_ble_eq_true rfl) (Nat.le_of_ble_eq_true rfl) ?_
  refine va_putF (D := (dC, dI)) (ci := 10) (v := .ref q_11) (ty := .array .int) (C := RX10) (T := TX10) (N := 14) hx hb hts mem_X10_init_0 tyX10 tyX10_ok nmX10 hown hK hP hD hS 0 rfl rfl 8 (by decide) (ow (k := 14) rfl) (fun _ h9 => h9) rfl hin rfl (by decide +kernel) rfl rfl (Nat.le_of_ble_eq_true rfl) dX10_init_69 (fun H locs hP hD hS => ?_)
  have hP : va_P (dC, dI) vwP [(h0, .inr (10, [.ref q_1, .ref q_3, .ref q_5, .ref q_7, .int 0, .int 0, .int 0, .ref q_9, .ref q_11, .null, .null, .null, .int 0, .int 0])), (q_11, .inl (cA_12, 1000, .inl (fun _ => 0)))] H := hP
  have hD : va_D A [(h0, .inr (10, [.ref q_1, .ref q_3, .ref q_5, .ref q_7, .int 0, .int 0, .int 0, .ref q_9, .ref q_11, .null, .null, .null, .int 0, .int 0])), (q_11, .inl (cA_12, 1000, .inl (fun _ => 0)))] := hD
  have hP := hP.sub (ws' := [(h0, .inr (10, [.ref q_1, .ref q_3, .ref q_5, .ref q_7, .int 0, .int 0, .int 0, .ref q_9, .ref q_11, .null, .null, .null, .int 0, .int 0]))]) [0] rfl
  have hD := hD.sub (ws' := [(h0, .inr (10, [.ref q_1, .ref q_3, .ref q_5, .ref q_7, .int 0, .int 0, .int 0, .ref q_9, .ref q_11, .null, .null, .null, .int 0, .int 0]))]) [0] (by decide) rfl
  have hK := hK.sub (tys' := []) [] rfl
  refine lv_aload_n hx hb dX10_init_72 rfl (lv_at hl 0 rfl) ?_
  refine lv_sipush (v := 1000) hx hb dX10_init_73 (by decide) ?_
  refine va_newa (ty := .long) (n := 1000) (N' := 1000) (a0 := (1000, .inr (.inl (fun _ => 0)))) hx hb (ow (k := 7) rfl) rfl hK hP hD hS hA (fun _ => rfl) (by decide) (by decide) (by decide) (Nat.le_of_ble_eq_true rfl) (Nat.le_of_ble_eq_true rfl) dX10_init_76 (fun q_13 cA_14 H hK hP hD hS => ?_)
  have hP : va_P (dC, dI) vwP [(h0, .inr (10, [.ref q_1, .ref q_3, .ref q_5, .ref q_7, .int 0, .int 0, .int 0, .ref q_9, .ref q_11, .null, .null, .null, .int 0, .int 0])), (q_13, .inl (cA_14, 1000, .inr (.inl (fun _ => 0))))] H := hP
  have hD : va_D A [(h0, .inr (10, [.ref q_1, .ref q_3, .ref q_5, .ref q_7, .int 0, .int 0, .int 0, .ref q_9, .ref q_11, .null, .null, .null, .int 0, .int 0])), (q_13, .inl (cA_14, 1000, .inr (.inl (fun _ => 0))))] := hD
  have hK : va_K (dC, dI) vwP [(cA_14, .long)] s := hK
  refine W.widen (k := 7) (n := 7088) (Nat.le_of_ble_eq_true rfl) (Nat.le_of_ble_eq_true rfl) ?_
  refine va_putF (D := (dC, dI)) (ci := 10) (v := .ref q_13) (ty := .array .long) (C := RX10) (T := TX10) (N := 14) hx hb hts mem_X10_init_0 tyX10 tyX10_ok nmX10 hown hK hP hD hS 0 rfl rfl 9 (by decide) (ow (k := 15) rfl) (fun _ h9 => h9) rfl hin rfl (by decide +kernel) rfl rfl (Nat.le_of_ble_eq_true rfl) dX10_init_78 (fun H locs hP hD hS => ?_)
  have hP : va_P (dC, dI) vwP [(h0, .inr (10, [.ref q_1, .ref q_3, .ref q_5, .ref q_7, .int 0, .int 0, .int 0, .ref q_9, .ref q_11, .ref q_13, .null, .null, .int 0, .int 0])), (q_13, .inl (cA_14, 1000, .inr (.inl (fun _ => 0))))] H := hP
  have hD : va_D A [(h0, .inr (10, [.ref q_1, .ref q_3, .ref q_5, .ref q_7, .int 0, .int 0, .int 0, .ref q_9, .ref q_11, .ref q_13, .null, .null, .int 0, .int 0])), (q_13, .inl (cA_14, 1000, .inr (.inl (fun _ => 0))))] := hD
  have hP := hP.sub (ws' := [(h0, .inr (10, [.ref q_1, .ref q_3, .ref q_5, .ref q_7, .int 0, .int 0, .int 0, .ref q_9, .ref q_11, .ref q_13, .null, .null, .int 0, .int 0]))]) [0] rfl
  have hD := hD.sub (ws' := [(h0, .inr (10, [.ref q_1, .ref q_3, .ref q_5, .ref q_7, .int 0, .int 0, .int 0, .ref q_9, .ref q_11, .ref q_13, .null, .null, .int 0, .int 0]))]) [0] (by decide) rfl
  have hK := hK.sub (tys' := []) [] rfl
  refine lv_aload_n hx hb dX10_init_81 rfl (lv_at hl 0 rfl) ?_
  refine lv_sipush (v := 1000) hx hb dX10_init_82 (by decide) ?_
  refine va_newa (ty := .boolean) (n := 1000) (N' := 1000) (a0 := (1000, .inl (fun _ => 0))) hx hb (ow (k := 12) rfl) rfl hK hP hD hS hA (fun _ => rfl) (by decide) (by decide) (by decide) (Nat.le_of_ble_eq_true rfl) (Nat.le_of_ble_eq_true rfl) dX10_init_85 (fun q_15 cA_16 H hK hP hD hS => ?_)
  have hP : va_P (dC, dI) vwP [(h0, .inr (10, [.ref q_1, .ref q_3, .ref q_5, .ref q_7, .int 0, .int 0, .int 0, .ref q_9, .ref q_11, .ref q_13, .null, .null, .int 0, .int 0])), (q_15, .inl (cA_16, 1000, .inl (fun _ => 0)))] H := hP
  have hD : va_D A [(h0, .inr (10, [.ref q_1, .ref q_3, .ref q_5, .ref q_7, .int 0, .int 0, .int 0, .ref q_9, .ref q_11, .ref q_13, .null, .null, .int 0, .int 0])), (q_15, .inl (cA_16, 1000, .inl (fun _ => 0)))] := hD
  have hK : va_K (dC, dI) vwP [(cA_16, .boolean)] s := hK
  refine W.widen (k := 8) (n := 8088) (Nat.le_of_ble_eq_true rfl) (Nat.le_of_ble_eq_true rfl) ?_
  refine va_putF (D := (dC, dI)) (ci := 10) (v := .ref q_15) (ty := .array .boolean) (C := RX10) (T := TX10) (N := 14) hx hb hts mem_X10_init_0 tyX10 tyX10_ok nmX10 hown hK hP hD hS 0 rfl rfl 10 (by decide) (ow (k := 16) rfl) (fun _ h9 => h9) rfl hin rfl (by decide +kernel) rfl rfl (Nat.le_of_ble_eq_true rfl) dX10_init_87 (fun H locs hP hD hS => ?_)
  have hP : va_P (dC, dI) vwP [(h0, .inr (10, [.ref q_1, .ref q_3, .ref q_5, .ref q_7, .int 0, .int 0, .int 0, .ref q_9, .ref q_11, .ref q_13, .ref q_15, .null, .int 0, .int 0])), (q_15, .inl (cA_16, 1000, .inl (fun _ => 0)))] H := hP
  have hD : va_D A [(h0, .inr (10, [.ref q_1, .ref q_3, .ref q_5, .ref q_7, .int 0, .int 0, .int 0, .ref q_9, .ref q_11, .ref q_13, .ref q_15, .null, .int 0, .int 0])), (q_15, .inl (cA_16, 1000, .inl (fun _ => 0)))] := hD
  have hP := hP.sub (ws' := [(h0, .inr (10, [.ref q_1, .ref q_3, .ref q_5, .ref q_7, .int 0, .int 0, .int 0, .ref q_9, .ref q_11, .ref q_13, .ref q_15, .null, .int 0, .int 0]))]) [0] rfl
  have hD := hD.sub (ws' := [(h0, .inr (10, [.ref q_1, .ref q_3, .ref q_5, .ref q_7, .int 0, .int 0, .int 0, .ref q_9, .ref q_11, .ref q_13, .ref q_15, .null, .int 0, .int 0]))]) [0] (by decide) rfl
  have hK := hK.sub (tys' := []) [] rfl
  refine lv_aload_n hx hb dX10_init_90 rfl (lv_at hl 0 rfl) ?_
  refine lv_sipush (v := 1024) hx hb dX10_init_91 (by decide) ?_
  refine va_newa (ty := .int) (n := 1024) (N' := 1024) (a0 := (1024, .inl (fun _ => 0))) hx hb (ow (k := 3) rfl) rfl hK hP hD hS hA (fun _ => rfl) (by decide) (by decide) (by decide) (Nat.le_of_ble_eq_true rfl) (Nat.le_of_ble_eq_true rfl) dX10_init_94 (fun q_17 cA_18 H hK hP hD hS => ?_)
  have hP : va_P (dC, dI) vwP [(h0, .inr (10, [.ref q_1, .ref q_3, .ref q_5, .ref q_7, .int 0, .int 0, .int 0, .ref q_9, .ref q_11, .ref q_13, .ref q_15, .null, .int 0, .int 0])), (q_17, .inl (cA_18, 1024, .inl (fun _ => 0)))] H := hP
  have hD : va_D A [(h0, .inr (10, [.ref q_1, .ref q_3, .ref q_5, .ref q_7, .int 0, .int 0, .int 0, .ref q_9, .ref q_11, .ref q_13, .ref q_15, .null, .int 0, .int 0])), (q_17, .inl (cA_18, 1024, .inl (fun _ => 0)))] := hD
  have hK : va_K (dC, dI) vwP [(cA_18, .int)] s := hK
  refine W.widen (k := 9) (n := 9112) (Nat.le_of_ble_eq_true rfl) (Nat.le_of_ble_eq_true rfl) ?_
  refine va_putF (D := (dC, dI)) (ci := 10) (v := .ref q_17) (ty := .array .int) (C := RX10) (T := TX10) (N := 14) hx hb hts mem_X10_init_0 tyX10 tyX10_ok nmX10 hown hK hP hD hS 0 rfl rfl 11 (by decide) (ow (k := 17) rfl) (fun _ h9 => h9) rfl hin rfl (by decide +kernel) rfl rfl (Nat.le_of_ble_eq_true rfl) dX10_init_96 (fun H locs hP hD hS => ?_)
  have hP : va_P (dC, dI) vwP [(h0, .inr (10, [.ref q_1, .ref q_3, .ref q_5, .ref q_7, .int 0, .int 0, .int 0, .ref q_9, .ref q_11, .ref q_13, .ref q_15, .ref q_17, .int 0, .int 0])), (q_17, .inl (cA_18, 1024, .inl (fun _ => 0)))] H := hP
  have hD : va_D A [(h0, .inr (10, [.ref q_1, .ref q_3, .ref q_5, .ref q_7, .int 0, .int 0, .int 0, .ref q_9, .ref q_11, .ref q_13, .ref q_15, .ref q_17, .int 0, .int 0])), (q_17, .inl (cA_18, 1024, .inl (fun _ => 0)))] := hD
  have hP := hP.sub (ws' := [(h0, .inr (10, [.ref q_1, .ref q_3, .ref q_5, .ref q_7, .int 0, .int 0, .int 0, .ref q_9, .ref q_11, .ref q_13, .ref q_15, .ref q_17, .int 0, .int 0]))]) [0] rfl
  have hD := hD.sub (ws' := [(h0, .inr (10, [.ref q_1, .ref q_3, .ref q_5, .ref q_7, .int 0, .int 0, .int 0, .ref q_9, .ref q_11, .ref q_13, .ref q_15, .ref q_17, .int 0, .int 0]))]) [0] (by decide) rfl
  have hK := hK.sub (tys' := []) [] rfl
  refine lv_aload_n hx hb dX10_init_99 rfl (lv_at hl 0 rfl) ?_
  refine lv_iconst (v := 0) hx hb dX10_init_100 (by decide) ?_
  refine va_put (D := (dC, dI)) (ci := 10) (v := .int 0) (ty := .int) (C := RX10) (T := TX10) (N := 14) hx hb hts mem_X10_init_0 tyX10 tyX10_ok nmX10 hown hK hP hD hS 0 rfl rfl 12 (by decide) (ow (k := 18) rfl) (fun _ h9 => h9) rfl (by decide +kernel) rfl rfl (Nat.le_of_ble_eq_true rfl) dX10_init_101 (fun H locs hP hD hS => ?_)
  have hP : va_P (dC, dI) vwP [(h0, .inr (10, [.ref q_1, .ref q_3, .ref q_5, .ref q_7, .int 0, .int 0, .int 0, .ref q_9, .ref q_11, .ref q_13, .ref q_15, .ref q_17, .int 0, .int 0]))] H := hP
  have hD : va_D A [(h0, .inr (10, [.ref q_1, .ref q_3, .ref q_5, .ref q_7, .int 0, .int 0, .int 0, .ref q_9, .ref q_11, .ref q_13, .ref q_15, .ref q_17, .int 0, .int 0]))] := hD
  refine lv_aload_n hx hb dX10_init_104 rfl (lv_at hl 0 rfl) ?_
  refine lv_iconst (v := 0) hx hb dX10_init_105 (by decide) ?_
  refine va_put (D := (dC, dI)) (ci := 10) (v := .int 0) (ty := .int) (C := RX10) (T := TX10) (N := 14) hx hb hts mem_X10_init_0 tyX10 tyX10_ok nmX10 hown hK hP hD hS 0 rfl rfl 13 (by decide) (ow (k := 19) rfl) (fun _ h9 => h9) rfl (by decide +kernel) rfl rfl (Nat.le_of_ble_eq_true rfl) dX10_init_106 (fun H locs hP hD hS => ?_)
  have hP : va_P (dC, dI) vwP [(h0, .inr (10, [.ref q_1, .ref q_3, .ref q_5, .ref q_7, .int 0, .int 0, .int 0, .ref q_9, .ref q_11, .ref q_13, .ref q_15, .ref q_17, .int 0, .int 0]))] H := hP
  have hD : va_D A [(h0, .inr (10, [.ref q_1, .ref q_3, .ref q_5, .ref q_7, .int 0, .int 0, .int 0, .ref q_9, .ref q_11, .ref q_13, .ref q_15, .ref q_17, .int 0, .int 0]))] := hD
  refine W.widen (k := 9) (n := 9112) (Nat.le_of_ble_eq_true rfl) (Nat.le_of_ble_eq_true rfl) ?_
  exact W.vret hx hb hr (fun t ht hW => ⟨⟨(), rfl, trivial, q_1, q_3, q_5, q_7, q_9, q_11, q_13, q_15, q_17, by rw [ht]; exact hP, va_K.moved hW.alike hK, hD⟩, hS.F ht⟩) hS.2.2 dX10_init_109
theorem dX5_init_0 : decode cX5_init 0 = .ok (.aload_n 0, 1) := by decide +kernel
theorem dX5_init_1 : decode cX5_init 1 = .ok (.invokespecial 3, 3) := by decide +kernel
theorem dX5_init_4 : decode cX5_init 4 = .ok (.aload_n 0, 1) := by decide +kernel
theorem dX5_init_5 : decode cX5_init 5 = .ok (.iconst 0, 1) := by decide +kernel
theorem dX5_init_6 : decode cX5_init 6 = .ok (.putfield 9, 3) := by decide +kernel
theorem dX5_init_9 : decode cX5_init 9 = .ok (.aload_n 0, 1) := by decide +kernel
theorem dX5_init_10 : decode cX5_init 10 = .ok (.iconst 0, 1) := by decide +kernel
theorem dX5_init_11 : decode cX5_init 11 = .ok (.putfield 15, 3) := by decide +kernel
theorem dX5_init_14 : decode cX5_init 14 = .ok (.aload_n 0, 1) := by decide +kernel
theorem dX5_init_15 : decode cX5_init 15 = .ok (.iconst 0, 1) := by decide +kernel
theorem dX5_init_16 : decode cX5_init 16 = .ok (.putfield 18, 3) := by decide +kernel
theorem dX5_init_19 : decode cX5_init 19 = .ok (.aload_n 0, 1) := by decide +kernel
theorem dX5_init_20 : decode cX5_init 20 = .ok (.iconst 0, 1) := by decide +kernel
theorem dX5_init_21 : decode cX5_init 21 = .ok (.putfield 21, 3) := by decide +kernel
theorem dX5_init_24 : decode cX5_init 24 = .ok (.aload_n 0, 1) := by decide +kernel
theorem dX5_init_25 : decode cX5_init 25 = .ok (.iconst 0, 1) := by decide +kernel
theorem dX5_init_26 : decode cX5_init 26 = .ok (.putfield 24, 3) := by decide +kernel
theorem dX5_init_29 : decode cX5_init 29 = .ok (.aload_n 0, 1) := by decide +kernel
theorem dX5_init_30 : decode cX5_init 30 = .ok (.iconst (-1), 1) := by decide +kernel
theorem dX5_init_31 : decode cX5_init 31 = .ok (.putfield 27, 3) := by decide +kernel
theorem dX5_init_34 : decode cX5_init 34 = .ok (.aload_n 0, 1) := by decide +kernel
theorem dX5_init_35 : decode cX5_init 35 = .ok (.sipush 512, 3) := by decide +kernel
theorem dX5_init_38 : decode cX5_init 38 = .ok (.newarray .int, 2) := by decide +kernel
theorem dX5_init_40 : decode cX5_init 40 = .ok (.putfield 30, 3) := by decide +kernel
theorem dX5_init_43 : decode cX5_init 43 = .ok (.aload_n 0, 1) := by decide +kernel
theorem dX5_init_44 : decode cX5_init 44 = .ok (.sipush 2048, 3) := by decide +kernel
theorem dX5_init_47 : decode cX5_init 47 = .ok (.newarray .int, 2) := by decide +kernel
theorem dX5_init_49 : decode cX5_init 49 = .ok (.putfield 34, 3) := by decide +kernel
theorem dX5_init_52 : decode cX5_init 52 = .ok (.aload_n 0, 1) := by decide +kernel
theorem dX5_init_53 : decode cX5_init 53 = .ok (.sipush 1024, 3) := by decide +kernel
theorem dX5_init_56 : decode cX5_init 56 = .ok (.newarray .int, 2) := by decide +kernel
theorem dX5_init_58 : decode cX5_init 58 = .ok (.putfield 37, 3) := by decide +kernel
theorem dX5_init_61 : decode cX5_init 61 = .ok (.aload_n 0, 1) := by decide +kernel
theorem dX5_init_62 : decode cX5_init 62 = .ok (.sipush 1000, 3) := by decide +kernel
theorem dX5_init_65 : decode cX5_init 65 = .ok (.newarray .int, 2) := by decide +kernel
theorem dX5_init_67 : decode cX5_init 67 = .ok (.putfield 40, 3) := by decide +kernel
theorem dX5_init_70 : decode cX5_init 70 = .ok (.aload_n 0, 1) := by decide +kernel
theorem dX5_init_71 : decode cX5_init 71 = .ok (.iconst 0, 1) := by decide +kernel
theorem dX5_init_72 : decode cX5_init 72 = .ok (.putfield 43, 3) := by decide +kernel
theorem dX5_init_75 : decode cX5_init 75 = .ok (.return_, 1) := by decide +kernel
def o_X5_init : List Cond := [.methodLink RX5 3 objectInit, .instanceMethod objectInit, .code objectInit ⟨#[0xb1]⟩ 1 none, .fieldLink RX5 9 "SsaForge$Machine" "inputLength" "I", .fieldLink RX5 15 "SsaForge$Machine" "answer" "I", .fieldLink RX5 18 "SsaForge$Machine" "shownCount" "I", .fieldLink RX5 21 "SsaForge$Machine" "steps" "I", .fieldLink RX5 24 "SsaForge$Machine" "inputRead" "I", .fieldLink RX5 27 "SsaForge$Machine" "ending" "I", .arrayClass .int, .fieldLink RX5 30 "SsaForge$Machine" "shownInts" "[I", .fieldLink RX5 34 "SsaForge$Machine" "inputInts" "[I", .fieldLink RX5 37 "SsaForge$Machine" "register" "[I", .fieldLink RX5 40 "SsaForge$Machine" "phiValue" "[I", .fieldLink RX5 43 "SsaForge$Machine" "fuel" "I"]
def v_X5_init : List Cond := .code yX5_init cX5_init 1 none :: (o_X5_init ++ (wsX50 ++ []))
theorem mow_X5_init : ∀ w ∈ o_X5_init, w ∈ v_X5_init := fun _ h => List.mem_cons_of_mem _ (List.mem_append_left _ h)
theorem mem_X5_init_0 : ∀ w ∈ wsX50, w ∈ v_X5_init := fun _ h => List.mem_cons_of_mem _ (List.mem_append_right _ (List.mem_append_left _ h))
set_option maxRecDepth 20000 in
theorem gw_X5_init : v_X5_init.all goodWord = true := by decide +kernel
set_option maxHeartbeats 4000000 in
set_option maxRecDepth 100000 in
theorem c_X5_init (l : Launch) (dC : Nat → ClassId) (dI : Nat → Nat → Nat) (h0 : Nat) (sz : Nat) : Met l yX5_init v_X5_init ({ frames := 1, cells := 4, slots := 4584, locals := 12 }) (va_Pc [.ref h0] (fun U => U.heap.size = sz ∧ va_P (dC, dI) vwP [(h0, .inr (5, [.int 0, .int 0, .int 0, .int 0, .int 0, .int 0, .null, .null, .null, .null, .int 0]))] U.heap ∧ va_K (dC, dI) vwP [] U ∧ va_D (fun _ => True) [(h0, .inr (5, [.int 0, .int 0, .int 0, .int 0, .int 0, .int 0, .null, .null, .null, .null, .int 0]))])) (va_Qv (fun _ : Unit => True) (fun (_ : Unit) (t : State) => ∃ (q_1 : Nat) (q_3 : Nat) (q_5 : Nat) (q_7 : Nat), va_P (dC, dI) vwP [(h0, .inr (5, [.int 0, .int 0, .int 0, .int 0, .int 0, .int (-1), .ref q_1, .ref q_3, .ref q_5, .ref q_7, .int 0]))] t.heap ∧ va_K (dC, dI) vwP [] t ∧ va_D (va_A [(h0, .inr (5, [.int 0, .int 0, .int 0, .int 0, .int 0, .int 0, .null, .null, .null, .null, .int 0]))] sz) [(h0, .inr (5, [.int 0, .int 0, .int 0, .int 0, .int 0, .int (-1), .ref q_1, .ref q_3, .ref q_5, .ref q_7, .int 0]))]) (va_A [(h0, .inr (5, [.int 0, .int 0, .int 0, .int 0, .int 0, .int 0, .null, .null, .null, .null, .int 0]))] sz)) 4 4584 (va_A [(h0, .inr (5, [.int 0, .int 0, .int 0, .int 0, .int 0, .int 0, .null, .null, .null, .null, .int 0]))] sz) := by
  refine Met.ofW (cc := cX5_init) (maxL := 1) (ret := none) (by decide) rfl ?_
  intro p e s m args below meth c s₁ B hml hv
  obtain ⟨rfl, hsz, hP, hK, hD0⟩ := hv
  have hx := B.exec
  have hb := B.bytes
  have hr := B.returns
  have hts := atoms_spec (ws := v_X5_init) B.pre
  have hown : s.vm.findClass RX5 = some m.cls := findClass_of_methodNamed B.named
  have hlocks := B.notSynchronized
  have ow : ∀ {k : Nat} {w : Cond}, o_X5_init[k]? = some w → w.before ([.ref h0] : List Value).toArray s = true := fun h => hts _ (mow_X5_init _ (List.mem_of_getElem? h))
  have hin : meth.name = "<init>" := (name_of_methodNamed B.named B.method).1
  subst hsz
  have hD := hD0.self (sz := s.heap.size)
  generalize hAe : va_A [(h0, .inr (5, [.int 0, .int 0, .int 0, .int 0, .int 0, .int 0, .null, .null, .null, .null, .int 0]))] s.heap.size = A at hD ⊢
  have hA : ∀ q : Nat, s.heap.size ≤ q → A q := fun q h => by rw [← hAe]; exact Or.inr h
  have hS : va_S A s.heap s.heap [] := va_S.rf
  have hP : va_P (dC, dI) vwP [(h0, .inr (5, [.int 0, .int 0, .int 0, .int 0, .int 0, .int 0, .null, .null, .null, .null, .int 0]))] s.heap := hP
  have hl := lv_entry ([.ref h0]) (n := 1) (Nat.le_of_ble_eq_true rfl)
  rw [lg_entry_eq]
  generalize (lg_sl ([.ref h0]) ++ List.replicate (1 - (lg_sl ([.ref h0])).length) Slot.unset).toArray = ls at hl ⊢
  have hl : lv_has ls 1 [(0, .ref h0)] := hl
  obtain ⟨H, hH⟩ : ∃ H, H = s.heap := ⟨_, rfl⟩
  rw [← hH] at hP
  have hS : va_S A s.heap H [] := by rw [hH]; exact hS
  rw [← hH]
  refine lv_aload_n hx hb dX5_init_0 rfl (lv_at hl 0 rfl) ?_
  refine W.objInit hx hb hown (ow (k := 0) rfl) (ow (k := 1) rfl) (ow (k := 2) rfl) rfl (by rw [hml]; exact hl.1) rfl dX5_init_1 (Nat.le_of_ble_eq_true rfl) (Nat.le_of_ble_eq_true rfl) ?_
  refine W.eq (g2 := F0 m 4 ls []) rfl ?_
  refine lv_aload_n hx hb dX5_init_4 rfl (lv_at hl 0 rfl) ?_
  refine lv_iconst (v := 0) hx hb dX5_init_5 (by decide) ?_
  refine va_put (D := (dC, dI)) (ci := 5) (v := .int 0) (ty := .int) (C := RX5) (T := TX5) (N := 11) hx hb hts mem_X5_init_0 tyX5 tyX5_ok nmX5 hown hK hP hD hS 0 rfl rfl 0 (by decide) (ow (k := 3) rfl) (fun _ h9 => h9) rfl (by decide +kernel) rfl rfl (Nat.le_of_ble_eq_true rfl) dX5_init_6 (fun H locs hP hD hS => ?_)
  have hP : va_P (dC, dI) vwP [(h0, .inr (5, [.int 0, .int 0, .int 0, .int 0, .int 0, .int 0, .null, .null, .null, .null, .int 0]))] H := hP
  have hD : va_D A [(h0, .inr (5, [.int 0, .int 0, .int 0, .int 0, .int 0, .int 0, .null, .null, .null, .null, .int 0]))] := hD
  refine lv_aload_n hx hb dX5_init_9 rfl (lv_at hl 0 rfl) ?_
  refine lv_iconst (v := 0) hx hb dX5_init_10 (by decide) ?_
  refine va_put (D := (dC, dI)) (ci := 5) (v := .int 0) (ty := .int) (C := RX5) (T := TX5) (N := 11) hx hb hts mem_X5_init_0 tyX5 tyX5_ok nmX5 hown hK hP hD hS 0 rfl rfl 1 (by decide) (ow (k := 4) rfl) (fun _ h9 => h9) rfl (by decide +kernel) rfl rfl (Nat.le_of_ble_eq_true rfl) dX5_init_11 (fun H locs hP hD hS => ?_)
  have hP : va_P (dC, dI) vwP [(h0, .inr (5, [.int 0, .int 0, .int 0, .int 0, .int 0, .int 0, .null, .null, .null, .null, .int 0]))] H := hP
  have hD : va_D A [(h0, .inr (5, [.int 0, .int 0, .int 0, .int 0, .int 0, .int 0, .null, .null, .null, .null, .int 0]))] := hD
  refine lv_aload_n hx hb dX5_init_14 rfl (lv_at hl 0 rfl) ?_
  refine lv_iconst (v := 0) hx hb dX5_init_15 (by decide) ?_
  refine va_put (D := (dC, dI)) (ci := 5) (v := .int 0) (ty := .int) (C := RX5) (T := TX5) (N := 11) hx hb hts mem_X5_init_0 tyX5 tyX5_ok nmX5 hown hK hP hD hS 0 rfl rfl 2 (by decide) (ow (k := 5) rfl) (fun _ h9 => h9) rfl (by decide +kernel) rfl rfl (Nat.le_of_ble_eq_true rfl) dX5_init_16 (fun H locs hP hD hS => ?_)
  have hP : va_P (dC, dI) vwP [(h0, .inr (5, [.int 0, .int 0, .int 0, .int 0, .int 0, .int 0, .null, .null, .null, .null, .int 0]))] H := hP
  have hD : va_D A [(h0, .inr (5, [.int 0, .int 0, .int 0, .int 0, .int 0, .int 0, .null, .null, .null, .null, .int 0]))] := hD
  refine lv_aload_n hx hb dX5_init_19 rfl (lv_at hl 0 rfl) ?_
  refine lv_iconst (v := 0) hx hb dX5_init_20 (by decide) ?_
  refine va_put (D := (dC, dI)) (ci := 5) (v := .int 0) (ty := .int) (C := RX5) (T := TX5) (N := 11) hx hb hts mem_X5_init_0 tyX5 tyX5_ok nmX5 hown hK hP hD hS 0 rfl rfl 3 (by decide) (ow (k := 6) rfl) (fun _ h9 => h9) rfl (by decide +kernel) rfl rfl (Nat.le_of_ble_eq_true rfl) dX5_init_21 (fun H locs hP hD hS => ?_)
  have hP : va_P (dC, dI) vwP [(h0, .inr (5, [.int 0, .int 0, .int 0, .int 0, .int 0, .int 0, .null, .null, .null, .null, .int 0]))] H := hP
  have hD : va_D A [(h0, .inr (5, [.int 0, .int 0, .int 0, .int 0, .int 0, .int 0, .null, .null, .null, .null, .int 0]))] := hD
  refine lv_aload_n hx hb dX5_init_24 rfl (lv_at hl 0 rfl) ?_
  refine lv_iconst (v := 0) hx hb dX5_init_25 (by decide) ?_
  refine va_put (D := (dC, dI)) (ci := 5) (v := .int 0) (ty := .int) (C := RX5) (T := TX5) (N := 11) hx hb hts mem_X5_init_0 tyX5 tyX5_ok nmX5 hown hK hP hD hS 0 rfl rfl 4 (by decide) (ow (k := 7) rfl) (fun _ h9 => h9) rfl (by decide +kernel) rfl rfl (Nat.le_of_ble_eq_true rfl) dX5_init_26 (fun H locs hP hD hS => ?_)
  have hP : va_P (dC, dI) vwP [(h0, .inr (5, [.int 0, .int 0, .int 0, .int 0, .int 0, .int 0, .null, .null, .null, .null, .int 0]))] H := hP
  have hD : va_D A [(h0, .inr (5, [.int 0, .int 0, .int 0, .int 0, .int 0, .int 0, .null, .null, .null, .null, .int 0]))] := hD
  refine lv_aload_n hx hb dX5_init_29 rfl (lv_at hl 0 rfl) ?_
  refine lv_iconst (v := (-1)) hx hb dX5_init_30 (by decide) ?_
  refine va_put (D := (dC, dI)) (ci := 5) (v := .int (-1)) (ty := .int) (C := RX5) (T := TX5) (N := 11) hx hb hts mem_X5_init_0 tyX5 tyX5_ok nmX5 hown hK hP hD hS 0 rfl rfl 5 (by decide) (ow (k := 8) rfl) (fun _ h9 => h9) rfl (by decide +kernel) rfl rfl (Nat.le_of_ble_eq_true rfl) dX5_init_31 (fun H locs hP hD hS => ?_)
  have hP : va_P (dC, dI) vwP [(h0, .inr (5, [.int 0, .int 0, .int 0, .int 0, .int 0, .int (-1), .null, .null, .null, .null, .int 0]))] H := hP
  have hD : va_D A [(h0, .inr (5, [.int 0, .int 0, .int 0, .int 0, .int 0, .int (-1), .null, .null, .null, .null, .int 0]))] := hD
  refine lv_aload_n hx hb dX5_init_34 rfl (lv_at hl 0 rfl) ?_
  refine lv_sipush (v := 512) hx hb dX5_init_35 (by decide) ?_
  refine va_newa (ty := .int) (n := 512) (N' := 512) (a0 := (512, .inl (fun _ => 0))) hx hb (ow (k := 9) rfl) rfl hK hP hD hS hA (fun _ => rfl) (by decide) (by decide) (by decide) (Nat.le_of_ble_eq_true rfl) (Nat.le_of_ble_eq_true rfl) dX5_init_38 (fun q_1 cA_2 H hK hP hD hS => ?_)
  have hP : va_P (dC, dI) vwP [(h0, .inr (5, [.int 0, .int 0, .int 0, .int 0, .int 0, .int (-1), .null, .null, .null, .null, .int 0])), (q_1, .inl (cA_2, 512, .inl (fun _ => 0)))] H := hP
  have hD : va_D A [(h0, .inr (5, [.int 0, .int 0, .int 0, .int 0, .int 0, .int (-1), .null, .null, .null, .null, .int 0])), (q_1, .inl (cA_2, 512, .inl (fun _ => 0)))] := hD
  have hK : va_K (dC, dI) vwP [(cA_2, .int)] s := hK
  refine W.widen (k := 1) (n := 512) (Nat.le_of_ble_eq_true rfl) (Nat.le_of_ble_eq_true rfl) ?_
  refine va_putF (D := (dC, dI)) (ci := 5) (v := .ref q_1) (ty := .array .int) (C := RX5) (T := TX5) (N := 11) hx hb hts mem_X5_init_0 tyX5 tyX5_ok nmX5 hown hK hP hD hS 0 rfl rfl 6 (by decide) (ow (k := 10) rfl) (fun _ h9 => h9) rfl hin rfl (by decide +kernel) rfl rfl (Nat.le_of_ble_eq_true rfl) dX5_init_40 (fun H locs hP hD hS => ?_)
  have hP : va_P (dC, dI) vwP [(h0, .inr (5, [.int 0, .int 0, .int 0, .int 0, .int 0, .int (-1), .ref q_1, .null, .null, .null, .int 0])), (q_1, .inl (cA_2, 512, .inl (fun _ => 0)))] H := hP
  have hD : va_D A [(h0, .inr (5, [.int 0, .int 0, .int 0, .int 0, .int 0, .int (-1), .ref q_1, .null, .null, .null, .int 0])), (q_1, .inl (cA_2, 512, .inl (fun _ => 0)))] := hD
  have hP := hP.sub (ws' := [(h0, .inr (5, [.int 0, .int 0, .int 0, .int 0, .int 0, .int (-1), .ref q_1, .null, .null, .null, .int 0]))]) [0] rfl
  have hD := hD.sub (ws' := [(h0, .inr (5, [.int 0, .int 0, .int 0, .int 0, .int 0, .int (-1), .ref q_1, .null, .null, .null, .int 0]))]) [0] (by decide) rfl
  have hK := hK.sub (tys' := []) [] rfl
  refine lv_aload_n hx hb dX5_init_43 rfl (lv_at hl 0 rfl) ?_
  refine lv_sipush (v := 2048) hx hb dX5_init_44 (by decide) ?_
  refine va_newa (ty := .int) (n := 2048) (N' := 2048) (a0 := (2048, .inl (fun _ => 0))) hx hb (ow (k := 9) rfl) rfl hK hP hD hS hA (fun _ => rfl) (by decide) (by decide) (by decide) (Nat.le_of_ble_eq_true rfl) (Nat.le_of_ble_eq_true rfl) dX5_init_47 (fun q_3 cA_4 H hK hP hD hS => ?_)
  have hP : va_P (dC, dI) vwP [(h0, .inr (5, [.int 0, .int 0, .int 0, .int 0, .int 0, .int (-1), .ref q_1, .null, .null, .null, .int 0])), (q_3, .inl (cA_4, 2048, .inl (fun _ => 0)))] H := hP
  have hD : va_D A [(h0, .inr (5, [.int 0, .int 0, .int 0, .int 0, .int 0, .int (-1), .ref q_1, .null, .null, .null, .int 0])), (q_3, .inl (cA_4, 2048, .inl (fun _ => 0)))] := hD
  have hK : va_K (dC, dI) vwP [(cA_4, .int)] s := hK
  refine W.widen (k := 2) (n := 2560) (Nat.le_of_ble_eq_true rfl) (Nat.le_of_ble_eq_true rfl) ?_
  refine va_putF (D := (dC, dI)) (ci := 5) (v := .ref q_3) (ty := .array .int) (C := RX5) (T := TX5) (N := 11) hx hb hts mem_X5_init_0 tyX5 tyX5_ok nmX5 hown hK hP hD hS 0 rfl rfl 7 (by decide) (ow (k := 11) rfl) (fun _ h9 => h9) rfl hin rfl (by decide +kernel) rfl rfl (Nat.le_of_ble_eq_true rfl) dX5_init_49 (fun H locs hP hD hS => ?_)
  have hP : va_P (dC, dI) vwP [(h0, .inr (5, [.int 0, .int 0, .int 0, .int 0, .int 0, .int (-1), .ref q_1, .ref q_3, .null, .null, .int 0])), (q_3, .inl (cA_4, 2048, .inl (fun _ => 0)))] H := hP
  have hD : va_D A [(h0, .inr (5, [.int 0, .int 0, .int 0, .int 0, .int 0, .int (-1), .ref q_1, .ref q_3, .null, .null, .int 0])), (q_3, .inl (cA_4, 2048, .inl (fun _ => 0)))] := hD
  have hP := hP.sub (ws' := [(h0, .inr (5, [.int 0, .int 0, .int 0, .int 0, .int 0, .int (-1), .ref q_1, .ref q_3, .null, .null, .int 0]))]) [0] rfl
  have hD := hD.sub (ws' := [(h0, .inr (5, [.int 0, .int 0, .int 0, .int 0, .int 0, .int (-1), .ref q_1, .ref q_3, .null, .null, .int 0]))]) [0] (by decide) rfl
  have hK := hK.sub (tys' := []) [] rfl
  refine lv_aload_n hx hb dX5_init_52 rfl (lv_at hl 0 rfl) ?_
  refine lv_sipush (v := 1024) hx hb dX5_init_53 (by decide) ?_
  refine va_newa (ty := .int) (n := 1024) (N' := 1024) (a0 := (1024, .inl (fun _ => 0))) hx hb (ow (k := 9) rfl) rfl hK hP hD hS hA (fun _ => rfl) (by decide) (by decide) (by decide) (Nat.le_of_ble_eq_true rfl) (Nat.le_of_ble_eq_true rfl) dX5_init_56 (fun q_5 cA_6 H hK hP hD hS => ?_)
  have hP : va_P (dC, dI) vwP [(h0, .inr (5, [.int 0, .int 0, .int 0, .int 0, .int 0, .int (-1), .ref q_1, .ref q_3, .null, .null, .int 0])), (q_5, .inl (cA_6, 1024, .inl (fun _ => 0)))] H := hP
  have hD : va_D A [(h0, .inr (5, [.int 0, .int 0, .int 0, .int 0, .int 0, .int (-1), .ref q_1, .ref q_3, .null, .null, .int 0])), (q_5, .inl (cA_6, 1024, .inl (fun _ => 0)))] := hD
  have hK : va_K (dC, dI) vwP [(cA_6, .int)] s := hK
  refine W.widen (k := 3) (n := 3584) (Nat.le_of_ble_eq_true rfl) (Nat.le_of_ble_eq_true rfl) ?_
  refine va_putF (D := (dC, dI)) (ci := 5) (v := .ref q_5) (ty := .array .int) (C := RX5) (T := TX5) (N := 11) hx hb hts mem_X5_init_0 tyX5 tyX5_ok nmX5 hown hK hP hD hS 0 rfl rfl 8 (by decide) (ow (k := 12) rfl) (fun _ h9 => h9) rfl hin rfl (by decide +kernel) rfl rfl (Nat.le_of_ble_eq_true rfl) dX5_init_58 (fun H locs hP hD hS => ?_)
  have hP : va_P (dC, dI) vwP [(h0, .inr (5, [.int 0, .int 0, .int 0, .int 0, .int 0, .int (-1), .ref q_1, .ref q_3, .ref q_5, .null, .int 0])), (q_5, .inl (cA_6, 1024, .inl (fun _ => 0)))] H := hP
  have hD : va_D A [(h0, .inr (5, [.int 0, .int 0, .int 0, .int 0, .int 0, .int (-1), .ref q_1, .ref q_3, .ref q_5, .null, .int 0])), (q_5, .inl (cA_6, 1024, .inl (fun _ => 0)))] := hD
  have hP := hP.sub (ws' := [(h0, .inr (5, [.int 0, .int 0, .int 0, .int 0, .int 0, .int (-1), .ref q_1, .ref q_3, .ref q_5, .null, .int 0]))]) [0] rfl
  have hD := hD.sub (ws' := [(h0, .inr (5, [.int 0, .int 0, .int 0, .int 0, .int 0, .int (-1), .ref q_1, .ref q_3, .ref q_5, .null, .int 0]))]) [0] (by decide) rfl
  have hK := hK.sub (tys' := []) [] rfl
  refine lv_aload_n hx hb dX5_init_61 rfl (lv_at hl 0 rfl) ?_
  refine lv_sipush (v := 1000) hx hb dX5_init_62 (by decide) ?_
  refine va_newa (ty := .int) (n := 1000) (N' := 1000) (a0 := (1000, .inl (fun _ => 0))) hx hb (ow (k := 9) rfl) rfl hK hP hD hS hA (fun _ => rfl) (by decide) (by decide) (by decide) (Nat.le_of_ble_eq_true rfl) (Nat.le_of_ble_eq_true rfl) dX5_init_65 (fun q_7 cA_8 H hK hP hD hS => ?_)
  have hP : va_P (dC, dI) vwP [(h0, .inr (5, [.int 0, .int 0, .int 0, .int 0, .int 0, .int (-1), .ref q_1, .ref q_3, .ref q_5, .null, .int 0])), (q_7, .inl (cA_8, 1000, .inl (fun _ => 0)))] H := hP
  have hD : va_D A [(h0, .inr (5, [.int 0, .int 0, .int 0, .int 0, .int 0, .int (-1), .ref q_1, .ref q_3, .ref q_5, .null, .int 0])), (q_7, .inl (cA_8, 1000, .inl (fun _ => 0)))] := hD
  have hK : va_K (dC, dI) vwP [(cA_8, .int)] s := hK
  refine W.widen (k := 4) (n := 4584) (Nat.le_of_ble_eq_true rfl) (Nat.le_of_ble_eq_true rfl) ?_
  refine va_putF (D := (dC, dI)) (ci := 5) (v := .ref q_7) (ty := .array .int) (C := RX5) (T := TX5) (N := 11) hx hb hts mem_X5_init_0 tyX5 tyX5_ok nmX5 hown hK hP hD hS 0 rfl rfl 9 (by decide) (ow (k := 13) rfl) (fun _ h9 => h9) rfl hin rfl (by decide +kernel) rfl rfl (Nat.le_of_ble_eq_true rfl) dX5_init_67 (fun H locs hP hD hS => ?_)
  have hP : va_P (dC, dI) vwP [(h0, .inr (5, [.int 0, .int 0, .int 0, .int 0, .int 0, .int (-1), .ref q_1, .ref q_3, .ref q_5, .ref q_7, .int 0])), (q_7, .inl (cA_8, 1000, .inl (fun _ => 0)))] H := hP
  have hD : va_D A [(h0, .inr (5, [.int 0, .int 0, .int 0, .int 0, .int 0, .int (-1), .ref q_1, .ref q_3, .ref q_5, .ref q_7, .int 0])), (q_7, .inl (cA_8, 1000, .inl (fun _ => 0)))] := hD
  have hP := hP.sub (ws' := [(h0, .inr (5, [.int 0, .int 0, .int 0, .int 0, .int 0, .int (-1), .ref q_1, .ref q_3, .ref q_5, .ref q_7, .int 0]))]) [0] rfl
  have hD := hD.sub (ws' := [(h0, .inr (5, [.int 0, .int 0, .int 0, .int 0, .int 0, .int (-1), .ref q_1, .ref q_3, .ref q_5, .ref q_7, .int 0]))]) [0] (by decide) rfl
  have hK := hK.sub (tys' := []) [] rfl
  refine lv_aload_n hx hb dX5_init_70 rfl (lv_at hl 0 rfl) ?_
  refine lv_iconst (v := 0) hx hb dX5_init_71 (by decide) ?_
  refine va_put (D := (dC, dI)) (ci := 5) (v := .int 0) (ty := .int) (C := RX5) (T := TX5) (N := 11) hx hb hts mem_X5_init_0 tyX5 tyX5_ok nmX5 hown hK hP hD hS 0 rfl rfl 10 (by decide) (ow (k := 14) rfl) (fun _ h9 => h9) rfl (by decide +kernel) rfl rfl (Nat.le_of_ble_eq_true rfl) dX5_init_72 (fun H locs hP hD hS => ?_)
  have hP : va_P (dC, dI) vwP [(h0, .inr (5, [.int 0, .int 0, .int 0, .int 0, .int 0, .int (-1), .ref q_1, .ref q_3, .ref q_5, .ref q_7, .int 0]))] H := hP
  have hD : va_D A [(h0, .inr (5, [.int 0, .int 0, .int 0, .int 0, .int 0, .int (-1), .ref q_1, .ref q_3, .ref q_5, .ref q_7, .int 0]))] := hD
  refine W.widen (k := 4) (n := 4584) (Nat.le_of_ble_eq_true rfl) (Nat.le_of_ble_eq_true rfl) ?_
  exact W.vret hx hb hr (fun t ht hW => ⟨⟨(), rfl, trivial, q_1, q_3, q_5, q_7, by rw [ht]; exact hP, va_K.moved hW.alike hK, hD⟩, hS.F ht⟩) hS.2.2 dX5_init_75
theorem dX6_init_0 : decode cX6_init 0 = .ok (.aload_n 0, 1) := by decide +kernel
theorem dX6_init_1 : decode cX6_init 1 = .ok (.invokespecial 3, 3) := by decide +kernel
theorem dX6_init_4 : decode cX6_init 4 = .ok (.aload_n 0, 1) := by decide +kernel
theorem dX6_init_5 : decode cX6_init 5 = .ok (.iconst 0, 1) := by decide +kernel
theorem dX6_init_6 : decode cX6_init 6 = .ok (.putfield 9, 3) := by decide +kernel
theorem dX6_init_9 : decode cX6_init 9 = .ok (.aload_n 0, 1) := by decide +kernel
theorem dX6_init_10 : decode cX6_init 10 = .ok (.sipush 4096, 3) := by decide +kernel
theorem dX6_init_13 : decode cX6_init 13 = .ok (.newarray .byte, 2) := by decide +kernel
theorem dX6_init_15 : decode cX6_init 15 = .ok (.putfield 15, 3) := by decide +kernel
theorem dX6_init_18 : decode cX6_init 18 = .ok (.aload_n 0, 1) := by decide +kernel
theorem dX6_init_19 : decode cX6_init 19 = .ok (.bipush 10, 2) := by decide +kernel
theorem dX6_init_21 : decode cX6_init 21 = .ok (.newarray .int, 2) := by decide +kernel
theorem dX6_init_23 : decode cX6_init 23 = .ok (.putfield 19, 3) := by decide +kernel
theorem dX6_init_26 : decode cX6_init 26 = .ok (.aload_n 0, 1) := by decide +kernel
theorem dX6_init_27 : decode cX6_init 27 = .ok (.iconst 0, 1) := by decide +kernel
theorem dX6_init_28 : decode cX6_init 28 = .ok (.putfield 23, 3) := by decide +kernel
theorem dX6_init_31 : decode cX6_init 31 = .ok (.aload_n 0, 1) := by decide +kernel
theorem dX6_init_32 : decode cX6_init 32 = .ok (.iconst 0, 1) := by decide +kernel
theorem dX6_init_33 : decode cX6_init 33 = .ok (.putfield 27, 3) := by decide +kernel
theorem dX6_init_36 : decode cX6_init 36 = .ok (.return_, 1) := by decide +kernel
def o_X6_init : List Cond := [.methodLink RX6 3 objectInit, .instanceMethod objectInit, .code objectInit ⟨#[0xb1]⟩ 1 none, .fieldLink RX6 9 "SsaForge$Printer" "length" "I", .arrayClass .byte, .fieldLink RX6 15 "SsaForge$Printer" "result" "[B", .arrayClass .int, .fieldLink RX6 19 "SsaForge$Printer" "digits" "[I", .fieldLink RX6 23 "SsaForge$Printer" "keeping" "Z", .fieldLink RX6 27 "SsaForge$Printer" "at" "I"]
def v_X6_init : List Cond := .code yX6_init cX6_init 1 none :: (o_X6_init ++ (wsX60 ++ []))
theorem mow_X6_init : ∀ w ∈ o_X6_init, w ∈ v_X6_init := fun _ h => List.mem_cons_of_mem _ (List.mem_append_left _ h)
theorem mem_X6_init_0 : ∀ w ∈ wsX60, w ∈ v_X6_init := fun _ h => List.mem_cons_of_mem _ (List.mem_append_right _ (List.mem_append_left _ h))
set_option maxRecDepth 20000 in
theorem gw_X6_init : v_X6_init.all goodWord = true := by decide +kernel
set_option maxHeartbeats 4000000 in
set_option maxRecDepth 100000 in
theorem c_X6_init (l : Launch) (dC : Nat → ClassId) (dI : Nat → Nat → Nat) (h0 : Nat) (sz : Nat) : Met l yX6_init v_X6_init ({ frames := 1, cells := 2, slots := 4106, locals := 12 }) (va_Pc [.ref h0] (fun U => U.heap.size = sz ∧ va_P (dC, dI) vwP [(h0, .inr (6, [.int 0, .null, .null, .int 0, .int 0]))] U.heap ∧ va_K (dC, dI) vwP [] U ∧ va_D (fun _ => True) [(h0, .inr (6, [.int 0, .null, .null, .int 0, .int 0]))])) (va_Qv (fun _ : Unit => True) (fun (_ : Unit) (t : State) => ∃ (q_1 : Nat) (q_3 : Nat), va_P (dC, dI) vwP [(h0, .inr (6, [.int 0, .ref q_1, .ref q_3, .int 0, .int 0]))] t.heap ∧ va_K (dC, dI) vwP [] t ∧ va_D (va_A [(h0, .inr (6, [.int 0, .null, .null, .int 0, .int 0]))] sz) [(h0, .inr (6, [.int 0, .ref q_1, .ref q_3, .int 0, .int 0]))]) (va_A [(h0, .inr (6, [.int 0, .null, .null, .int 0, .int 0]))] sz)) 2 4106 (va_A [(h0, .inr (6, [.int 0, .null, .null, .int 0, .int 0]))] sz) := by
  refine Met.ofW (cc := cX6_init) (maxL := 1) (ret := none) (by decide) rfl ?_
  intro p e s m args below meth c s₁ B hml hv
  obtain ⟨rfl, hsz, hP, hK, hD0⟩ := hv
  have hx := B.exec
  have hb := B.bytes
  have hr := B.returns
  have hts := atoms_spec (ws := v_X6_init) B.pre
  have hown : s.vm.findClass RX6 = some m.cls := findClass_of_methodNamed B.named
  have hlocks := B.notSynchronized
  have ow : ∀ {k : Nat} {w : Cond}, o_X6_init[k]? = some w → w.before ([.ref h0] : List Value).toArray s = true := fun h => hts _ (mow_X6_init _ (List.mem_of_getElem? h))
  have hin : meth.name = "<init>" := (name_of_methodNamed B.named B.method).1
  subst hsz
  have hD := hD0.self (sz := s.heap.size)
  generalize hAe : va_A [(h0, .inr (6, [.int 0, .null, .null, .int 0, .int 0]))] s.heap.size = A at hD ⊢
  have hA : ∀ q : Nat, s.heap.size ≤ q → A q := fun q h => by rw [← hAe]; exact Or.inr h
  have hS : va_S A s.heap s.heap [] := va_S.rf
  have hP : va_P (dC, dI) vwP [(h0, .inr (6, [.int 0, .null, .null, .int 0, .int 0]))] s.heap := hP
  have hl := lv_entry ([.ref h0]) (n := 1) (Nat.le_of_ble_eq_true rfl)
  rw [lg_entry_eq]
  generalize (lg_sl ([.ref h0]) ++ List.replicate (1 - (lg_sl ([.ref h0])).length) Slot.unset).toArray = ls at hl ⊢
  have hl : lv_has ls 1 [(0, .ref h0)] := hl
  obtain ⟨H, hH⟩ : ∃ H, H = s.heap := ⟨_, rfl⟩
  rw [← hH] at hP
  have hS : va_S A s.heap H [] := by rw [hH]; exact hS
  rw [← hH]
  refine lv_aload_n hx hb dX6_init_0 rfl (lv_at hl 0 rfl) ?_
  refine W.objInit hx hb hown (ow (k := 0) rfl) (ow (k := 1) rfl) (ow (k := 2) rfl) rfl (by rw [hml]; exact hl.1) rfl dX6_init_1 (Nat.le_of_ble_eq_true rfl) (Nat.le_of_ble_eq_true rfl) ?_
  refine W.eq (g2 := F0 m 4 ls []) rfl ?_
  refine lv_aload_n hx hb dX6_init_4 rfl (lv_at hl 0 rfl) ?_
  refine lv_iconst (v := 0) hx hb dX6_init_5 (by decide) ?_
  refine va_put (D := (dC, dI)) (ci := 6) (v := .int 0) (ty := .int) (C := RX6) (T := TX6) (N := 5) hx hb hts mem_X6_init_0 tyX6 tyX6_ok nmX6 hown hK hP hD hS 0 rfl rfl 0 (by decide) (ow (k := 3) rfl) (fun _ h9 => h9) rfl (by decide +kernel) rfl rfl (Nat.le_of_ble_eq_true rfl) dX6_init_6 (fun H locs hP hD hS => ?_)
  have hP : va_P (dC, dI) vwP [(h0, .inr (6, [.int 0, .null, .null, .int 0, .int 0]))] H := hP
  have hD : va_D A [(h0, .inr (6, [.int 0, .null, .null, .int 0, .int 0]))] := hD
  refine lv_aload_n hx hb dX6_init_9 rfl (lv_at hl 0 rfl) ?_
  refine lv_sipush (v := 4096) hx hb dX6_init_10 (by decide) ?_
  refine va_newa (ty := .byte) (n := 4096) (N' := 4096) (a0 := (4096, .inl (fun _ => 0))) hx hb (ow (k := 4) rfl) rfl hK hP hD hS hA (fun _ => rfl) (by decide) (by decide) (by decide) (Nat.le_of_ble_eq_true rfl) (Nat.le_of_ble_eq_true rfl) dX6_init_13 (fun q_1 cA_2 H hK hP hD hS => ?_)
  have hP : va_P (dC, dI) vwP [(h0, .inr (6, [.int 0, .null, .null, .int 0, .int 0])), (q_1, .inl (cA_2, 4096, .inl (fun _ => 0)))] H := hP
  have hD : va_D A [(h0, .inr (6, [.int 0, .null, .null, .int 0, .int 0])), (q_1, .inl (cA_2, 4096, .inl (fun _ => 0)))] := hD
  have hK : va_K (dC, dI) vwP [(cA_2, .byte)] s := hK
  refine W.widen (k := 1) (n := 4096) (Nat.le_of_ble_eq_true rfl) (Nat.le_of_ble_eq_true rfl) ?_
  refine va_put (D := (dC, dI)) (ci := 6) (v := .ref q_1) (ty := .array .byte) (C := RX6) (T := TX6) (N := 5) hx hb hts mem_X6_init_0 tyX6 tyX6_ok nmX6 hown hK hP hD hS 0 rfl rfl 1 (by decide) (ow (k := 5) rfl) (fun _ h9 => h9) rfl (by decide +kernel) rfl rfl (Nat.le_of_ble_eq_true rfl) dX6_init_15 (fun H locs hP hD hS => ?_)
  have hP : va_P (dC, dI) vwP [(h0, .inr (6, [.int 0, .ref q_1, .null, .int 0, .int 0])), (q_1, .inl (cA_2, 4096, .inl (fun _ => 0)))] H := hP
  have hD : va_D A [(h0, .inr (6, [.int 0, .ref q_1, .null, .int 0, .int 0])), (q_1, .inl (cA_2, 4096, .inl (fun _ => 0)))] := hD
  have hP := hP.sub (ws' := [(h0, .inr (6, [.int 0, .ref q_1, .null, .int 0, .int 0]))]) [0] rfl
  have hD := hD.sub (ws' := [(h0, .inr (6, [.int 0, .ref q_1, .null, .int 0, .int 0]))]) [0] (by decide) rfl
  have hK := hK.sub (tys' := []) [] rfl
  refine lv_aload_n hx hb dX6_init_18 rfl (lv_at hl 0 rfl) ?_
  refine lv_bipush (v := 10) hx hb dX6_init_19 (by decide) ?_
  refine va_newa (ty := .int) (n := 10) (N' := 10) (a0 := (10, .inl (fun _ => 0))) hx hb (ow (k := 6) rfl) rfl hK hP hD hS hA (fun _ => rfl) (by decide) (by decide) (by decide) (Nat.le_of_ble_eq_true rfl) (Nat.le_of_ble_eq_true rfl) dX6_init_21 (fun q_3 cA_4 H hK hP hD hS => ?_)
  have hP : va_P (dC, dI) vwP [(h0, .inr (6, [.int 0, .ref q_1, .null, .int 0, .int 0])), (q_3, .inl (cA_4, 10, .inl (fun _ => 0)))] H := hP
  have hD : va_D A [(h0, .inr (6, [.int 0, .ref q_1, .null, .int 0, .int 0])), (q_3, .inl (cA_4, 10, .inl (fun _ => 0)))] := hD
  have hK : va_K (dC, dI) vwP [(cA_4, .int)] s := hK
  refine W.widen (k := 2) (n := 4106) (Nat.le_of_ble_eq_true rfl) (Nat.le_of_ble_eq_true rfl) ?_
  refine va_putF (D := (dC, dI)) (ci := 6) (v := .ref q_3) (ty := .array .int) (C := RX6) (T := TX6) (N := 5) hx hb hts mem_X6_init_0 tyX6 tyX6_ok nmX6 hown hK hP hD hS 0 rfl rfl 2 (by decide) (ow (k := 7) rfl) (fun _ h9 => h9) rfl hin rfl (by decide +kernel) rfl rfl (Nat.le_of_ble_eq_true rfl) dX6_init_23 (fun H locs hP hD hS => ?_)
  have hP : va_P (dC, dI) vwP [(h0, .inr (6, [.int 0, .ref q_1, .ref q_3, .int 0, .int 0])), (q_3, .inl (cA_4, 10, .inl (fun _ => 0)))] H := hP
  have hD : va_D A [(h0, .inr (6, [.int 0, .ref q_1, .ref q_3, .int 0, .int 0])), (q_3, .inl (cA_4, 10, .inl (fun _ => 0)))] := hD
  have hP := hP.sub (ws' := [(h0, .inr (6, [.int 0, .ref q_1, .ref q_3, .int 0, .int 0]))]) [0] rfl
  have hD := hD.sub (ws' := [(h0, .inr (6, [.int 0, .ref q_1, .ref q_3, .int 0, .int 0]))]) [0] (by decide) rfl
  have hK := hK.sub (tys' := []) [] rfl
  refine lv_aload_n hx hb dX6_init_26 rfl (lv_at hl 0 rfl) ?_
  refine lv_iconst (v := 0) hx hb dX6_init_27 (by decide) ?_
  refine va_put (D := (dC, dI)) (ci := 6) (v := .int 0) (ty := .boolean) (C := RX6) (T := TX6) (N := 5) hx hb hts mem_X6_init_0 tyX6 tyX6_ok nmX6 hown hK hP hD hS 0 rfl rfl 3 (by decide) (ow (k := 8) rfl) (fun _ h9 => h9) rfl (by decide +kernel) rfl rfl (Nat.le_of_ble_eq_true rfl) dX6_init_28 (fun H locs hP hD hS => ?_)
  have hP : va_P (dC, dI) vwP [(h0, .inr (6, [.int 0, .ref q_1, .ref q_3, .int 0, .int 0]))] H := hP
  have hD : va_D A [(h0, .inr (6, [.int 0, .ref q_1, .ref q_3, .int 0, .int 0]))] := hD
  refine lv_aload_n hx hb dX6_init_31 rfl (lv_at hl 0 rfl) ?_
  refine lv_iconst (v := 0) hx hb dX6_init_32 (by decide) ?_
  refine va_put (D := (dC, dI)) (ci := 6) (v := .int 0) (ty := .int) (C := RX6) (T := TX6) (N := 5) hx hb hts mem_X6_init_0 tyX6 tyX6_ok nmX6 hown hK hP hD hS 0 rfl rfl 4 (by decide) (ow (k := 9) rfl) (fun _ h9 => h9) rfl (by decide +kernel) rfl rfl (Nat.le_of_ble_eq_true rfl) dX6_init_33 (fun H locs hP hD hS => ?_)
  have hP : va_P (dC, dI) vwP [(h0, .inr (6, [.int 0, .ref q_1, .ref q_3, .int 0, .int 0]))] H := hP
  have hD : va_D A [(h0, .inr (6, [.int 0, .ref q_1, .ref q_3, .int 0, .int 0]))] := hD
  refine W.widen (k := 2) (n := 4106) (Nat.le_of_ble_eq_true rfl) (Nat.le_of_ble_eq_true rfl) ?_
  exact W.vret hx hb hr (fun t ht hW => ⟨⟨(), rfl, trivial, q_1, q_3, by rw [ht]; exact hP, va_K.moved hW.alike hK, hD⟩, hS.F ht⟩) hS.2.2 dX6_init_36
theorem dX7_init_0 : decode cX7_init 0 = .ok (.aload_n 0, 1) := by decide +kernel
theorem dX7_init_1 : decode cX7_init 1 = .ok (.invokespecial 3, 3) := by decide +kernel
theorem dX7_init_4 : decode cX7_init 4 = .ok (.aload_n 0, 1) := by decide +kernel
theorem dX7_init_5 : decode cX7_init 5 = .ok (.iconst 0, 1) := by decide +kernel
theorem dX7_init_6 : decode cX7_init 6 = .ok (.putfield 9, 3) := by decide +kernel
theorem dX7_init_9 : decode cX7_init 9 = .ok (.aload_n 0, 1) := by decide +kernel
theorem dX7_init_10 : decode cX7_init 10 = .ok (.iconst 0, 1) := by decide +kernel
theorem dX7_init_11 : decode cX7_init 11 = .ok (.newarray .byte, 2) := by decide +kernel
theorem dX7_init_13 : decode cX7_init 13 = .ok (.putfield 15, 3) := by decide +kernel
theorem dX7_init_16 : decode cX7_init 16 = .ok (.aload_n 0, 1) := by decide +kernel
theorem dX7_init_17 : decode cX7_init 17 = .ok (.iconst 0, 1) := by decide +kernel
theorem dX7_init_18 : decode cX7_init 18 = .ok (.putfield 19, 3) := by decide +kernel
theorem dX7_init_21 : decode cX7_init 21 = .ok (.aload_n 0, 1) := by decide +kernel
theorem dX7_init_22 : decode cX7_init 22 = .ok (.iconst 0, 1) := by decide +kernel
theorem dX7_init_23 : decode cX7_init 23 = .ok (.putfield 22, 3) := by decide +kernel
theorem dX7_init_26 : decode cX7_init 26 = .ok (.aload_n 0, 1) := by decide +kernel
theorem dX7_init_27 : decode cX7_init 27 = .ok (.iconst 1, 1) := by decide +kernel
theorem dX7_init_28 : decode cX7_init 28 = .ok (.putfield 25, 3) := by decide +kernel
theorem dX7_init_31 : decode cX7_init 31 = .ok (.aload_n 0, 1) := by decide +kernel
theorem dX7_init_32 : decode cX7_init 32 = .ok (.iconst 0, 1) := by decide +kernel
theorem dX7_init_33 : decode cX7_init 33 = .ok (.putfield 28, 3) := by decide +kernel
theorem dX7_init_36 : decode cX7_init 36 = .ok (.aload_n 0, 1) := by decide +kernel
theorem dX7_init_37 : decode cX7_init 37 = .ok (.iconst 0, 1) := by decide +kernel
theorem dX7_init_38 : decode cX7_init 38 = .ok (.putfield 31, 3) := by decide +kernel
theorem dX7_init_41 : decode cX7_init 41 = .ok (.aload_n 0, 1) := by decide +kernel
theorem dX7_init_42 : decode cX7_init 42 = .ok (.iconst 0, 1) := by decide +kernel
theorem dX7_init_43 : decode cX7_init 43 = .ok (.putfield 34, 3) := by decide +kernel
theorem dX7_init_46 : decode cX7_init 46 = .ok (.aload_n 0, 1) := by decide +kernel
theorem dX7_init_47 : decode cX7_init 47 = .ok (.aconst_null, 1) := by decide +kernel
theorem dX7_init_48 : decode cX7_init 48 = .ok (.putfield 37, 3) := by decide +kernel
theorem dX7_init_51 : decode cX7_init 51 = .ok (.aload_n 0, 1) := by decide +kernel
theorem dX7_init_52 : decode cX7_init 52 = .ok (.iconst 0, 1) := by decide +kernel
theorem dX7_init_53 : decode cX7_init 53 = .ok (.putfield 41, 3) := by decide +kernel
theorem dX7_init_56 : decode cX7_init 56 = .ok (.aload_n 0, 1) := by decide +kernel
theorem dX7_init_57 : decode cX7_init 57 = .ok (.iconst 0, 1) := by decide +kernel
theorem dX7_init_58 : decode cX7_init 58 = .ok (.putfield 44, 3) := by decide +kernel
theorem dX7_init_61 : decode cX7_init 61 = .ok (.aload_n 0, 1) := by decide +kernel
theorem dX7_init_62 : decode cX7_init 62 = .ok (.iconst 0, 1) := by decide +kernel
theorem dX7_init_63 : decode cX7_init 63 = .ok (.putfield 47, 3) := by decide +kernel
theorem dX7_init_66 : decode cX7_init 66 = .ok (.aload_n 0, 1) := by decide +kernel
theorem dX7_init_67 : decode cX7_init 67 = .ok (.iconst 0, 1) := by decide +kernel
theorem dX7_init_68 : decode cX7_init 68 = .ok (.putfield 50, 3) := by decide +kernel
theorem dX7_init_71 : decode cX7_init 71 = .ok (.aload_n 0, 1) := by decide +kernel
theorem dX7_init_72 : decode cX7_init 72 = .ok (.lconst 0, 1) := by decide +kernel
theorem dX7_init_73 : decode cX7_init 73 = .ok (.putfield 53, 3) := by decide +kernel
theorem dX7_init_76 : decode cX7_init 76 = .ok (.aload_n 0, 1) := by decide +kernel
theorem dX7_init_77 : decode cX7_init 77 = .ok (.iconst 0, 1) := by decide +kernel
theorem dX7_init_78 : decode cX7_init 78 = .ok (.putfield 57, 3) := by decide +kernel
theorem dX7_init_81 : decode cX7_init 81 = .ok (.aload_n 0, 1) := by decide +kernel
theorem dX7_init_82 : decode cX7_init 82 = .ok (.iconst (-1), 1) := by decide +kernel
theorem dX7_init_83 : decode cX7_init 83 = .ok (.putfield 60, 3) := by decide +kernel
theorem dX7_init_86 : decode cX7_init 86 = .ok (.aload_n 0, 1) := by decide +kernel
theorem dX7_init_87 : decode cX7_init 87 = .ok (.bipush 60, 2) := by decide +kernel
theorem dX7_init_89 : decode cX7_init 89 = .ok (.newarray .boolean, 2) := by decide +kernel
theorem dX7_init_91 : decode cX7_init 91 = .ok (.putfield 63, 3) := by decide +kernel
theorem dX7_init_94 : decode cX7_init 94 = .ok (.aload_n 0, 1) := by decide +kernel
theorem dX7_init_95 : decode cX7_init 95 = .ok (.bipush 60, 2) := by decide +kernel
theorem dX7_init_97 : decode cX7_init 97 = .ok (.newarray .int, 2) := by decide +kernel
theorem dX7_init_99 : decode cX7_init 99 = .ok (.putfield 67, 3) := by decide +kernel
theorem dX7_init_102 : decode cX7_init 102 = .ok (.return_, 1) := by decide +kernel
def o_X7_init : List Cond := [.methodLink RX7 3 objectInit, .instanceMethod objectInit, .code objectInit ⟨#[0xb1]⟩ 1 none, .fieldLink RX7 9 "SsaForge$Reader" "reason" "I", .arrayClass .byte, .fieldLink RX7 15 "SsaForge$Reader" "bytes" "[B", .fieldLink RX7 19 "SsaForge$Reader" "length" "I", .fieldLink RX7 22 "SsaForge$Reader" "at" "I", .fieldLink RX7 25 "SsaForge$Reader" "kind" "I", .fieldLink RX7 28 "SsaForge$Reader" "place" "I", .fieldLink RX7 31 "SsaForge$Reader" "value" "I", .fieldLink RX7 34 "SsaForge$Reader" "state" "I", .fieldLink RX7 37 "SsaForge$Reader" "code" "LSsaForge$Code;", .fieldLink RX7 41 "SsaForge$Reader" "rowCount" "I", .fieldLink RX7 44 "SsaForge$Reader" "blockCount" "I", .fieldLink RX7 47 "SsaForge$Reader" "rowTarget" "I", .fieldLink RX7 50 "SsaForge$Reader" "rowOp" "I", .fieldLink RX7 53 "SsaForge$Reader" "operand" "J", .fieldLink RX7 57 "SsaForge$Reader" "firstGoal" "I", .fieldLink RX7 60 "SsaForge$Reader" "brokenPlace" "I", .arrayClass .boolean, .fieldLink RX7 63 "SsaForge$Reader" "labelled" "[Z", .arrayClass .int, .fieldLink RX7 67 "SsaForge$Reader" "goalPlace" "[I"]
def v_X7_init : List Cond := .code yX7_init cX7_init 1 none :: (o_X7_init ++ (wsX70 ++ []))
theorem mow_X7_init : ∀ w ∈ o_X7_init, w ∈ v_X7_init := fun _ h => List.mem_cons_of_mem _ (List.mem_append_left _ h)
theorem mem_X7_init_0 : ∀ w ∈ wsX70, w ∈ v_X7_init := fun _ h => List.mem_cons_of_mem _ (List.mem_append_right _ (List.mem_append_left _ h))
set_option maxRecDepth 20000 in
theorem gw_X7_init : v_X7_init.all goodWord = true := by decide +kernel
set_option maxHeartbeats 4000000 in
set_option maxRecDepth 100000 in
theorem c_X7_init (l : Launch) (dC : Nat → ClassId) (dI : Nat → Nat → Nat) (h0 : Nat) (sz : Nat) : Met l yX7_init v_X7_init ({ frames := 1, cells := 3, slots := 120, locals := 12 }) (va_Pc [.ref h0] (fun U => U.heap.size = sz ∧ va_P (dC, dI) vwP [(h0, .inr (7, [.int 0, .null, .int 0, .int 0, .int 0, .int 0, .int 0, .int 0, .null, .int 0, .int 0, .int 0, .int 0, .long 0, .int 0, .int 0, .null, .null]))] U.heap ∧ va_K (dC, dI) vwP [] U ∧ va_D (fun _ => True) [(h0, .inr (7, [.int 0, .null, .int 0, .int 0, .int 0, .int 0, .int 0, .int 0, .null, .int 0, .int 0, .int 0, .int 0, .long 0, .int 0, .int 0, .null, .null]))])) (va_Qv (fun _ : Unit => True) (fun (_ : Unit) (t : State) => ∃ (q_1 : Nat) (q_3 : Nat) (q_5 : Nat) (cA_4 : ClassId) (cA_6 : ClassId), va_P (dC, dI) vwP [(h0, .inr (7, [.int 0, .ref q_1, .int 0, .int 0, .int 1, .int 0, .int 0, .int 0, .null, .int 0, .int 0, .int 0, .int 0, .long 0, .int 0, .int (-1), .ref q_3, .ref q_5])), (q_3, .inl (cA_4, 60, .inl (fun _ => 0))), (q_5, .inl (cA_6, 60, .inl (fun _ => 0)))] t.heap ∧ va_K (dC, dI) vwP [(cA_4, .boolean), (cA_6, .int)] t ∧ va_D (va_A [(h0, .inr (7, [.int 0, .null, .int 0, .int 0, .int 0, .int 0, .int 0, .int 0, .null, .int 0, .int 0, .int 0, .int 0, .long 0, .int 0, .int 0, .null, .null]))] sz) [(h0, .inr (7, [.int 0, .ref q_1, .int 0, .int 0, .int 1, .int 0, .int 0, .int 0, .null, .int 0, .int 0, .int 0, .int 0, .long 0, .int 0, .int (-1), .ref q_3, .ref q_5])), (q_3, .inl (cA_4, 60, .inl (fun _ => 0))), (q_5, .inl (cA_6, 60, .inl (fun _ => 0)))]) (va_A [(h0, .inr (7, [.int 0, .null, .int 0, .int 0, .int 0, .int 0, .int 0, .int 0, .null, .int 0, .int 0, .int 0, .int 0, .long 0, .int 0, .int 0, .null, .null]))] sz)) 3 120 (va_A [(h0, .inr (7, [.int 0, .null, .int 0, .int 0, .int 0, .int 0, .int 0, .int 0, .null, .int 0, .int 0, .int 0, .int 0, .long 0, .int 0, .int 0, .null, .null]))] sz) := by
  refine Met.ofW (cc := cX7_init) (maxL := 1) (ret := none) (by decide) rfl ?_
  intro p e s m args below meth c s₁ B hml hv
  obtain ⟨rfl, hsz, hP, hK, hD0⟩ := hv
  have hx := B.exec
  have hb := B.bytes
  have hr := B.returns
  have hts := atoms_spec (ws := v_X7_init) B.pre
  have hown : s.vm.findClass RX7 = some m.cls := findClass_of_methodNamed B.named
  have hlocks := B.notSynchronized
  have ow : ∀ {k : Nat} {w : Cond}, o_X7_init[k]? = some w → w.before ([.ref h0] : List Value).toArray s = true := fun h => hts _ (mow_X7_init _ (List.mem_of_getElem? h))
  have hin : meth.name = "<init>" := (name_of_methodNamed B.named B.method).1
  subst hsz
  have hD := hD0.self (sz := s.heap.size)
  generalize hAe : va_A [(h0, .inr (7, [.int 0, .null, .int 0, .int 0, .int 0, .int 0, .int 0, .int 0, .null, .int 0, .int 0, .int 0, .int 0, .long 0, .int 0, .int 0, .null, .null]))] s.heap.size = A at hD ⊢
  have hA : ∀ q : Nat, s.heap.size ≤ q → A q := fun q h => by rw [← hAe]; exact Or.inr h
  have hS : va_S A s.heap s.heap [] := va_S.rf
  have hP : va_P (dC, dI) vwP [(h0, .inr (7, [.int 0, .null, .int 0, .int 0, .int 0, .int 0, .int 0, .int 0, .null, .int 0, .int 0, .int 0, .int 0, .long 0, .int 0, .int 0, .null, .null]))] s.heap := hP
  have hl := lv_entry ([.ref h0]) (n := 1) (Nat.le_of_ble_eq_true rfl)
  rw [lg_entry_eq]
  generalize (lg_sl ([.ref h0]) ++ List.replicate (1 - (lg_sl ([.ref h0])).length) Slot.unset).toArray = ls at hl ⊢
  have hl : lv_has ls 1 [(0, .ref h0)] := hl
  obtain ⟨H, hH⟩ : ∃ H, H = s.heap := ⟨_, rfl⟩
  rw [← hH] at hP
  have hS : va_S A s.heap H [] := by rw [hH]; exact hS
  rw [← hH]
  refine lv_aload_n hx hb dX7_init_0 rfl (lv_at hl 0 rfl) ?_
  refine W.objInit hx hb hown (ow (k := 0) rfl) (ow (k := 1) rfl) (ow (k := 2) rfl) rfl (by rw [hml]; exact hl.1) rfl dX7_init_1 (Nat.le_of_ble_eq_true rfl) (Nat.le_of_ble_eq_true rfl) ?_
  refine W.eq (g2 := F0 m 4 ls []) rfl ?_
  refine lv_aload_n hx hb dX7_init_4 rfl (lv_at hl 0 rfl) ?_
  refine lv_iconst (v := 0) hx hb dX7_init_5 (by decide) ?_
  refine va_put (D := (dC, dI)) (ci := 7) (v := .int 0) (ty := .int) (C := RX7) (T := TX7) (N := 18) hx hb hts mem_X7_init_0 tyX7 tyX7_ok nmX7 hown hK hP hD hS 0 rfl rfl 0 (by decide) (ow (k := 3) rfl) (fun _ h9 => h9) rfl (by decide +kernel) rfl rfl (Nat.le_of_ble_eq_true rfl) dX7_init_6 (fun H locs hP hD hS => ?_)
  have hP : va_P (dC, dI) vwP [(h0, .inr (7, [.int 0, .null, .int 0, .int 0, .int 0, .int 0, .int 0, .int 0, .null, .int 0, .int 0, .int 0, .int 0, .long 0, .int 0, .int 0, .null, .null]))] H := hP
  have hD : va_D A [(h0, .inr (7, [.int 0, .null, .int 0, .int 0, .int 0, .int 0, .int 0, .int 0, .null, .int 0, .int 0, .int 0, .int 0, .long 0, .int 0, .int 0, .null, .null]))] := hD
  refine lv_aload_n hx hb dX7_init_9 rfl (lv_at hl 0 rfl) ?_
  refine lv_iconst (v := 0) hx hb dX7_init_10 (by decide) ?_
  refine va_newa (ty := .byte) (n := 0) (N' := 0) (a0 := (0, .inl (fun _ => 0))) hx hb (ow (k := 4) rfl) rfl hK hP hD hS hA (fun _ => rfl) (by decide) (by decide) (by decide) (Nat.le_of_ble_eq_true rfl) (Nat.le_of_ble_eq_true rfl) dX7_init_11 (fun q_1 cA_2 H hK hP hD hS => ?_)
  have hP : va_P (dC, dI) vwP [(h0, .inr (7, [.int 0, .null, .int 0, .int 0, .int 0, .int 0, .int 0, .int 0, .null, .int 0, .int 0, .int 0, .int 0, .long 0, .int 0, .int 0, .null, .null])), (q_1, .inl (cA_2, 0, .inl (fun _ => 0)))] H := hP
  have hD : va_D A [(h0, .inr (7, [.int 0, .null, .int 0, .int 0, .int 0, .int 0, .int 0, .int 0, .null, .int 0, .int 0, .int 0, .int 0, .long 0, .int 0, .int 0, .null, .null])), (q_1, .inl (cA_2, 0, .inl (fun _ => 0)))] := hD
  have hK : va_K (dC, dI) vwP [(cA_2, .byte)] s := hK
  refine W.widen (k := 1) (n := 0) (Nat.le_of_ble_eq_true rfl) (Nat.le_of_ble_eq_true rfl) ?_
  refine va_put (D := (dC, dI)) (ci := 7) (v := .ref q_1) (ty := .array .byte) (C := RX7) (T := TX7) (N := 18) hx hb hts mem_X7_init_0 tyX7 tyX7_ok nmX7 hown hK hP hD hS 0 rfl rfl 1 (by decide) (ow (k := 5) rfl) (fun _ h9 => h9) rfl (by decide +kernel) rfl rfl (Nat.le_of_ble_eq_true rfl) dX7_init_13 (fun H locs hP hD hS => ?_)
  have hP : va_P (dC, dI) vwP [(h0, .inr (7, [.int 0, .ref q_1, .int 0, .int 0, .int 0, .int 0, .int 0, .int 0, .null, .int 0, .int 0, .int 0, .int 0, .long 0, .int 0, .int 0, .null, .null])), (q_1, .inl (cA_2, 0, .inl (fun _ => 0)))] H := hP
  have hD : va_D A [(h0, .inr (7, [.int 0, .ref q_1, .int 0, .int 0, .int 0, .int 0, .int 0, .int 0, .null, .int 0, .int 0, .int 0, .int 0, .long 0, .int 0, .int 0, .null, .null])), (q_1, .inl (cA_2, 0, .inl (fun _ => 0)))] := hD
  have hP := hP.sub (ws' := [(h0, .inr (7, [.int 0, .ref q_1, .int 0, .int 0, .int 0, .int 0, .int 0, .int 0, .null, .int 0, .int 0, .int 0, .int 0, .long 0, .int 0, .int 0, .null, .null]))]) [0] rfl
  have hD := hD.sub (ws' := [(h0, .inr (7, [.int 0, .ref q_1, .int 0, .int 0, .int 0, .int 0, .int 0, .int 0, .null, .int 0, .int 0, .int 0, .int 0, .long 0, .int 0, .int 0, .null, .null]))]) [0] (by decide) rfl
  have hK := hK.sub (tys' := []) [] rfl
  refine lv_aload_n hx hb dX7_init_16 rfl (lv_at hl 0 rfl) ?_
  refine lv_iconst (v := 0) hx hb dX7_init_17 (by decide) ?_
  refine va_put (D := (dC, dI)) (ci := 7) (v := .int 0) (ty := .int) (C := RX7) (T := TX7) (N := 18) hx hb hts mem_X7_init_0 tyX7 tyX7_ok nmX7 hown hK hP hD hS 0 rfl rfl 2 (by decide) (ow (k := 6) rfl) (fun _ h9 => h9) rfl (by decide +kernel) rfl rfl (Nat.le_of_ble_eq_true rfl) dX7_init_18 (fun H locs hP hD hS => ?_)
  have hP : va_P (dC, dI) vwP [(h0, .inr (7, [.int 0, .ref q_1, .int 0, .int 0, .int 0, .int 0, .int 0, .int 0, .null, .int 0, .int 0, .int 0, .int 0, .long 0, .int 0, .int 0, .null, .null]))] H := hP
  have hD : va_D A [(h0, .inr (7, [.int 0, .ref q_1, .int 0, .int 0, .int 0, .int 0, .int 0, .int 0, .null, .int 0, .int 0, .int 0, .int 0, .long 0, .int 0, .int 0, .null, .null]))] := hD
  refine lv_aload_n hx hb dX7_init_21 rfl (lv_at hl 0 rfl) ?_
  refine lv_iconst (v := 0) hx hb dX7_init_22 (by decide) ?_
  refine va_put (D := (dC, dI)) (ci := 7) (v := .int 0) (ty := .int) (C := RX7) (T := TX7) (N := 18) hx hb hts mem_X7_init_0 tyX7 tyX7_ok nmX7 hown hK hP hD hS 0 rfl rfl 3 (by decide) (ow (k := 7) rfl) (fun _ h9 => h9) rfl (by decide +kernel) rfl rfl (Nat.le_of_ble_eq_true rfl) dX7_init_23 (fun H locs hP hD hS => ?_)
  have hP : va_P (dC, dI) vwP [(h0, .inr (7, [.int 0, .ref q_1, .int 0, .int 0, .int 0, .int 0, .int 0, .int 0, .null, .int 0, .int 0, .int 0, .int 0, .long 0, .int 0, .int 0, .null, .null]))] H := hP
  have hD : va_D A [(h0, .inr (7, [.int 0, .ref q_1, .int 0, .int 0, .int 0, .int 0, .int 0, .int 0, .null, .int 0, .int 0, .int 0, .int 0, .long 0, .int 0, .int 0, .null, .null]))] := hD
  refine lv_aload_n hx hb dX7_init_26 rfl (lv_at hl 0 rfl) ?_
  refine lv_iconst (v := 1) hx hb dX7_init_27 (by decide) ?_
  refine va_put (D := (dC, dI)) (ci := 7) (v := .int 1) (ty := .int) (C := RX7) (T := TX7) (N := 18) hx hb hts mem_X7_init_0 tyX7 tyX7_ok nmX7 hown hK hP hD hS 0 rfl rfl 4 (by decide) (ow (k := 8) rfl) (fun _ h9 => h9) rfl (by decide +kernel) rfl rfl (Nat.le_of_ble_eq_true rfl) dX7_init_28 (fun H locs hP hD hS => ?_)
  have hP : va_P (dC, dI) vwP [(h0, .inr (7, [.int 0, .ref q_1, .int 0, .int 0, .int 1, .int 0, .int 0, .int 0, .null, .int 0, .int 0, .int 0, .int 0, .long 0, .int 0, .int 0, .null, .null]))] H := hP
  have hD : va_D A [(h0, .inr (7, [.int 0, .ref q_1, .int 0, .int 0, .int 1, .int 0, .int 0, .int 0, .null, .int 0, .int 0, .int 0, .int 0, .long 0, .int 0, .int 0, .null, .null]))] := hD
  refine lv_aload_n hx hb dX7_init_31 rfl (lv_at hl 0 rfl) ?_
  refine lv_iconst (v := 0) hx hb dX7_init_32 (by decide) ?_
  refine va_put (D := (dC, dI)) (ci := 7) (v := .int 0) (ty := .int) (C := RX7) (T := TX7) (N := 18) hx hb hts mem_X7_init_0 tyX7 tyX7_ok nmX7 hown hK hP hD hS 0 rfl rfl 5 (by decide) (ow (k := 9) rfl) (fun _ h9 => h9) rfl (by decide +kernel) rfl rfl (Nat.le_of_ble_eq_true rfl) dX7_init_33 (fun H locs hP hD hS => ?_)
  have hP : va_P (dC, dI) vwP [(h0, .inr (7, [.int 0, .ref q_1, .int 0, .int 0, .int 1, .int 0, .int 0, .int 0, .null, .int 0, .int 0, .int 0, .int 0, .long 0, .int 0, .int 0, .null, .null]))] H := hP
  have hD : va_D A [(h0, .inr (7, [.int 0, .ref q_1, .int 0, .int 0, .int 1, .int 0, .int 0, .int 0, .null, .int 0, .int 0, .int 0, .int 0, .long 0, .int 0, .int 0, .null, .null]))] := hD
  refine lv_aload_n hx hb dX7_init_36 rfl (lv_at hl 0 rfl) ?_
  refine lv_iconst (v := 0) hx hb dX7_init_37 (by decide) ?_
  refine va_put (D := (dC, dI)) (ci := 7) (v := .int 0) (ty := .int) (C := RX7) (T := TX7) (N := 18) hx hb hts mem_X7_init_0 tyX7 tyX7_ok nmX7 hown hK hP hD hS 0 rfl rfl 6 (by decide) (ow (k := 10) rfl) (fun _ h9 => h9) rfl (by decide +kernel) rfl rfl (Nat.le_of_ble_eq_true rfl) dX7_init_38 (fun H locs hP hD hS => ?_)
  have hP : va_P (dC, dI) vwP [(h0, .inr (7, [.int 0, .ref q_1, .int 0, .int 0, .int 1, .int 0, .int 0, .int 0, .null, .int 0, .int 0, .int 0, .int 0, .long 0, .int 0, .int 0, .null, .null]))] H := hP
  have hD : va_D A [(h0, .inr (7, [.int 0, .ref q_1, .int 0, .int 0, .int 1, .int 0, .int 0, .int 0, .null, .int 0, .int 0, .int 0, .int 0, .long 0, .int 0, .int 0, .null, .null]))] := hD
  refine lv_aload_n hx hb dX7_init_41 rfl (lv_at hl 0 rfl) ?_
  refine lv_iconst (v := 0) hx hb dX7_init_42 (by decide) ?_
  refine va_put (D := (dC, dI)) (ci := 7) (v := .int 0) (ty := .int) (C := RX7) (T := TX7) (N := 18) hx hb hts mem_X7_init_0 tyX7 tyX7_ok nmX7 hown hK hP hD hS 0 rfl rfl 7 (by decide) (ow (k := 11) rfl) (fun _ h9 => h9) rfl (by decide +kernel) rfl rfl (Nat.le_of_ble_eq_true rfl) dX7_init_43 (fun H locs hP hD hS => ?_)
  have hP : va_P (dC, dI) vwP [(h0, .inr (7, [.int 0, .ref q_1, .int 0, .int 0, .int 1, .int 0, .int 0, .int 0, .null, .int 0, .int 0, .int 0, .int 0, .long 0, .int 0, .int 0, .null, .null]))] H := hP
  have hD : va_D A [(h0, .inr (7, [.int 0, .ref q_1, .int 0, .int 0, .int 1, .int 0, .int 0, .int 0, .null, .int 0, .int 0, .int 0, .int 0, .long 0, .int 0, .int 0, .null, .null]))] := hD
  refine lv_aload_n hx hb dX7_init_46 rfl (lv_at hl 0 rfl) ?_
  refine lv_null hx hb dX7_init_47 ?_
  refine va_put (D := (dC, dI)) (ci := 7) (v := .null) (ty := .object "SsaForge$Code") (C := RX7) (T := TX7) (N := 18) hx hb hts mem_X7_init_0 tyX7 tyX7_ok nmX7 hown hK hP hD hS 0 rfl rfl 8 (by decide) (ow (k := 12) rfl) (fun _ h9 => h9) rfl (by decide +kernel) rfl rfl (Nat.le_of_ble_eq_true rfl) dX7_init_48 (fun H locs hP hD hS => ?_)
  have hP : va_P (dC, dI) vwP [(h0, .inr (7, [.int 0, .ref q_1, .int 0, .int 0, .int 1, .int 0, .int 0, .int 0, .null, .int 0, .int 0, .int 0, .int 0, .long 0, .int 0, .int 0, .null, .null]))] H := hP
  have hD : va_D A [(h0, .inr (7, [.int 0, .ref q_1, .int 0, .int 0, .int 1, .int 0, .int 0, .int 0, .null, .int 0, .int 0, .int 0, .int 0, .long 0, .int 0, .int 0, .null, .null]))] := hD
  refine lv_aload_n hx hb dX7_init_51 rfl (lv_at hl 0 rfl) ?_
  refine lv_iconst (v := 0) hx hb dX7_init_52 (by decide) ?_
  refine va_put (D := (dC, dI)) (ci := 7) (v := .int 0) (ty := .int) (C := RX7) (T := TX7) (N := 18) hx hb hts mem_X7_init_0 tyX7 tyX7_ok nmX7 hown hK hP hD hS 0 rfl rfl 9 (by decide) (ow (k := 13) rfl) (fun _ h9 => h9) rfl (by decide +kernel) rfl rfl (Nat.le_of_ble_eq_true rfl) dX7_init_53 (fun H locs hP hD hS => ?_)
  have hP : va_P (dC, dI) vwP [(h0, .inr (7, [.int 0, .ref q_1, .int 0, .int 0, .int 1, .int 0, .int 0, .int 0, .null, .int 0, .int 0, .int 0, .int 0, .long 0, .int 0, .int 0, .null, .null]))] H := hP
  have hD : va_D A [(h0, .inr (7, [.int 0, .ref q_1, .int 0, .int 0, .int 1, .int 0, .int 0, .int 0, .null, .int 0, .int 0, .int 0, .int 0, .long 0, .int 0, .int 0, .null, .null]))] := hD
  refine lv_aload_n hx hb dX7_init_56 rfl (lv_at hl 0 rfl) ?_
  refine lv_iconst (v := 0) hx hb dX7_init_57 (by decide) ?_
  refine va_put (D := (dC, dI)) (ci := 7) (v := .int 0) (ty := .int) (C := RX7) (T := TX7) (N := 18) hx hb hts mem_X7_init_0 tyX7 tyX7_ok nmX7 hown hK hP hD hS 0 rfl rfl 10 (by decide) (ow (k := 14) rfl) (fun _ h9 => h9) rfl (by decide +kernel) rfl rfl (Nat.le_of_ble_eq_true rfl) dX7_init_58 (fun H locs hP hD hS => ?_)
  have hP : va_P (dC, dI) vwP [(h0, .inr (7, [.int 0, .ref q_1, .int 0, .int 0, .int 1, .int 0, .int 0, .int 0, .null, .int 0, .int 0, .int 0, .int 0, .long 0, .int 0, .int 0, .null, .null]))] H := hP
  have hD : va_D A [(h0, .inr (7, [.int 0, .ref q_1, .int 0, .int 0, .int 1, .int 0, .int 0, .int 0, .null, .int 0, .int 0, .int 0, .int 0, .long 0, .int 0, .int 0, .null, .null]))] := hD
  refine lv_aload_n hx hb dX7_init_61 rfl (lv_at hl 0 rfl) ?_
  refine lv_iconst (v := 0) hx hb dX7_init_62 (by decide) ?_
  refine va_put (D := (dC, dI)) (ci := 7) (v := .int 0) (ty := .int) (C := RX7) (T := TX7) (N := 18) hx hb hts mem_X7_init_0 tyX7 tyX7_ok nmX7 hown hK hP hD hS 0 rfl rfl 11 (by decide) (ow (k := 15) rfl) (fun _ h9 => h9) rfl (by decide +kernel) rfl rfl (Nat.le_of_ble_eq_true rfl) dX7_init_63 (fun H locs hP hD hS => ?_)
  have hP : va_P (dC, dI) vwP [(h0, .inr (7, [.int 0, .ref q_1, .int 0, .int 0, .int 1, .int 0, .int 0, .int 0, .null, .int 0, .int 0, .int 0, .int 0, .long 0, .int 0, .int 0, .null, .null]))] H := hP
  have hD : va_D A [(h0, .inr (7, [.int 0, .ref q_1, .int 0, .int 0, .int 1, .int 0, .int 0, .int 0, .null, .int 0, .int 0, .int 0, .int 0, .long 0, .int 0, .int 0, .null, .null]))] := hD
  refine lv_aload_n hx hb dX7_init_66 rfl (lv_at hl 0 rfl) ?_
  refine lv_iconst (v := 0) hx hb dX7_init_67 (by decide) ?_
  refine va_put (D := (dC, dI)) (ci := 7) (v := .int 0) (ty := .int) (C := RX7) (T := TX7) (N := 18) hx hb hts mem_X7_init_0 tyX7 tyX7_ok nmX7 hown hK hP hD hS 0 rfl rfl 12 (by decide) (ow (k := 16) rfl) (fun _ h9 => h9) rfl (by decide +kernel) rfl rfl (Nat.le_of_ble_eq_true rfl) dX7_init_68 (fun H locs hP hD hS => ?_)
  have hP : va_P (dC, dI) vwP [(h0, .inr (7, [.int 0, .ref q_1, .int 0, .int 0, .int 1, .int 0, .int 0, .int 0, .null, .int 0, .int 0, .int 0, .int 0, .long 0, .int 0, .int 0, .null, .null]))] H := hP
  have hD : va_D A [(h0, .inr (7, [.int 0, .ref q_1, .int 0, .int 0, .int 1, .int 0, .int 0, .int 0, .null, .int 0, .int 0, .int 0, .int 0, .long 0, .int 0, .int 0, .null, .null]))] := hD
  refine lv_aload_n hx hb dX7_init_71 rfl (lv_at hl 0 rfl) ?_
  refine lv_lconst (v := 0) hx hb dX7_init_72 (by decide) ?_
  refine va_put (D := (dC, dI)) (ci := 7) (v := .long 0) (ty := .long) (C := RX7) (T := TX7) (N := 18) hx hb hts mem_X7_init_0 tyX7 tyX7_ok nmX7 hown hK hP hD hS 0 rfl rfl 13 (by decide) (ow (k := 17) rfl) (fun _ h9 => h9) rfl (by decide +kernel) rfl rfl (Nat.le_of_ble_eq_true rfl) dX7_init_73 (fun H locs hP hD hS => ?_)
  have hP : va_P (dC, dI) vwP [(h0, .inr (7, [.int 0, .ref q_1, .int 0, .int 0, .int 1, .int 0, .int 0, .int 0, .null, .int 0, .int 0, .int 0, .int 0, .long 0, .int 0, .int 0, .null, .null]))] H := hP
  have hD : va_D A [(h0, .inr (7, [.int 0, .ref q_1, .int 0, .int 0, .int 1, .int 0, .int 0, .int 0, .null, .int 0, .int 0, .int 0, .int 0, .long 0, .int 0, .int 0, .null, .null]))] := hD
  refine lv_aload_n hx hb dX7_init_76 rfl (lv_at hl 0 rfl) ?_
  refine lv_iconst (v := 0) hx hb dX7_init_77 (by decide) ?_
  refine va_put (D := (dC, dI)) (ci := 7) (v := .int 0) (ty := .int) (C := RX7) (T := TX7) (N := 18) hx hb hts mem_X7_init_0 tyX7 tyX7_ok nmX7 hown hK hP hD hS 0 rfl rfl 14 (by decide) (ow (k := 18) rfl) (fun _ h9 => h9) rfl (by decide +kernel) rfl rfl (Nat.le_of_ble_eq_true rfl) dX7_init_78 (fun H locs hP hD hS => ?_)
  have hP : va_P (dC, dI) vwP [(h0, .inr (7, [.int 0, .ref q_1, .int 0, .int 0, .int 1, .int 0, .int 0, .int 0, .null, .int 0, .int 0, .int 0, .int 0, .long 0, .int 0, .int 0, .null, .null]))] H := hP
  have hD : va_D A [(h0, .inr (7, [.int 0, .ref q_1, .int 0, .int 0, .int 1, .int 0, .int 0, .int 0, .null, .int 0, .int 0, .int 0, .int 0, .long 0, .int 0, .int 0, .null, .null]))] := hD
  refine lv_aload_n hx hb dX7_init_81 rfl (lv_at hl 0 rfl) ?_
  refine lv_iconst (v := (-1)) hx hb dX7_init_82 (by decide) ?_
  refine va_put (D := (dC, dI)) (ci := 7) (v := .int (-1)) (ty := .int) (C := RX7) (T := TX7) (N := 18) hx hb hts mem_X7_init_0 tyX7 tyX7_ok nmX7 hown hK hP hD hS 0 rfl rfl 15 (by decide) (ow (k := 19) rfl) (fun _ h9 => h9) rfl (by decide +kernel) rfl rfl (Nat.le_of_ble_eq_true rfl) dX7_init_83 (fun H locs hP hD hS => ?_)
  have hP : va_P (dC, dI) vwP [(h0, .inr (7, [.int 0, .ref q_1, .int 0, .int 0, .int 1, .int 0, .int 0, .int 0, .null, .int 0, .int 0, .int 0, .int 0, .long 0, .int 0, .int (-1), .null, .null]))] H := hP
  have hD : va_D A [(h0, .inr (7, [.int 0, .ref q_1, .int 0, .int 0, .int 1, .int 0, .int 0, .int 0, .null, .int 0, .int 0, .int 0, .int 0, .long 0, .int 0, .int (-1), .null, .null]))] := hD
  refine lv_aload_n hx hb dX7_init_86 rfl (lv_at hl 0 rfl) ?_
  refine lv_bipush (v := 60) hx hb dX7_init_87 (by decide) ?_
  refine va_newa (ty := .boolean) (n := 60) (N' := 60) (a0 := (60, .inl (fun _ => 0))) hx hb (ow (k := 20) rfl) rfl hK hP hD hS hA (fun _ => rfl) (by decide) (by decide) (by decide) (Nat.le_of_ble_eq_true rfl) (Nat.le_of_ble_eq_true rfl) dX7_init_89 (fun q_3 cA_4 H hK hP hD hS => ?_)
  have hP : va_P (dC, dI) vwP [(h0, .inr (7, [.int 0, .ref q_1, .int 0, .int 0, .int 1, .int 0, .int 0, .int 0, .null, .int 0, .int 0, .int 0, .int 0, .long 0, .int 0, .int (-1), .null, .null])), (q_3, .inl (cA_4, 60, .inl (fun _ => 0)))] H := hP
  have hD : va_D A [(h0, .inr (7, [.int 0, .ref q_1, .int 0, .int 0, .int 1, .int 0, .int 0, .int 0, .null, .int 0, .int 0, .int 0, .int 0, .long 0, .int 0, .int (-1), .null, .null])), (q_3, .inl (cA_4, 60, .inl (fun _ => 0)))] := hD
  have hK : va_K (dC, dI) vwP [(cA_4, .boolean)] s := hK
  refine W.widen (k := 2) (n := 60) (Nat.le_of_ble_eq_true rfl) (Nat.le_of_ble_eq_true rfl) ?_
  refine va_putF (D := (dC, dI)) (ci := 7) (v := .ref q_3) (ty := .array .boolean) (C := RX7) (T := TX7) (N := 18) hx hb hts mem_X7_init_0 tyX7 tyX7_ok nmX7 hown hK hP hD hS 0 rfl rfl 16 (by decide) (ow (k := 21) rfl) (fun _ h9 => h9) rfl hin rfl (by decide +kernel) rfl rfl (Nat.le_of_ble_eq_true rfl) dX7_init_91 (fun H locs hP hD hS => ?_)
  have hP : va_P (dC, dI) vwP [(h0, .inr (7, [.int 0, .ref q_1, .int 0, .int 0, .int 1, .int 0, .int 0, .int 0, .null, .int 0, .int 0, .int 0, .int 0, .long 0, .int 0, .int (-1), .ref q_3, .null])), (q_3, .inl (cA_4, 60, .inl (fun _ => 0)))] H := hP
  have hD : va_D A [(h0, .inr (7, [.int 0, .ref q_1, .int 0, .int 0, .int 1, .int 0, .int 0, .int 0, .null, .int 0, .int 0, .int 0, .int 0, .long 0, .int 0, .int (-1), .ref q_3, .null])), (q_3, .inl (cA_4, 60, .inl (fun _ => 0)))] := hD
  refine lv_aload_n hx hb dX7_init_94 rfl (lv_at hl 0 rfl) ?_
  refine lv_bipush (v := 60) hx hb dX7_init_95 (by decide) ?_
  refine va_newa (ty := .int) (n := 60) (N' := 60) (a0 := (60, .inl (fun _ => 0))) hx hb (ow (k := 22) rfl) rfl hK hP hD hS hA (fun _ => rfl) (by decide) (by decide) (by decide) (Nat.le_of_ble_eq_true rfl) (Nat.le_of_ble_eq_true rfl) dX7_init_97 (fun q_5 cA_6 H hK hP hD hS => ?_)
  have hP : va_P (dC, dI) vwP [(h0, .inr (7, [.int 0, .ref q_1, .int 0, .int 0, .int 1, .int 0, .int 0, .int 0, .null, .int 0, .int 0, .int 0, .int 0, .long 0, .int 0, .int (-1), .ref q_3, .null])), (q_3, .inl (cA_4, 60, .inl (fun _ => 0))), (q_5, .inl (cA_6, 60, .inl (fun _ => 0)))] H := hP
  have hD : va_D A [(h0, .inr (7, [.int 0, .ref q_1, .int 0, .int 0, .int 1, .int 0, .int 0, .int 0, .null, .int 0, .int 0, .int 0, .int 0, .long 0, .int 0, .int (-1), .ref q_3, .null])), (q_3, .inl (cA_4, 60, .inl (fun _ => 0))), (q_5, .inl (cA_6, 60, .inl (fun _ => 0)))] := hD
  have hK : va_K (dC, dI) vwP [(cA_4, .boolean), (cA_6, .int)] s := hK
  refine W.widen (k := 3) (n := 120) (Nat.le_of_ble_eq_true rfl) (Nat.le_of_ble_eq_true rfl) ?_
  refine va_putF (D := (dC, dI)) (ci := 7) (v := .ref q_5) (ty := .array .int) (C := RX7) (T := TX7) (N := 18) hx hb hts mem_X7_init_0 tyX7 tyX7_ok nmX7 hown hK hP hD hS 0 rfl rfl 17 (by decide) (ow (k := 23) rfl) (fun _ h9 => h9) rfl hin rfl (by decide +kernel) rfl rfl (Nat.le_of_ble_eq_true rfl) dX7_init_99 (fun H locs hP hD hS => ?_)
  have hP : va_P (dC, dI) vwP [(h0, .inr (7, [.int 0, .ref q_1, .int 0, .int 0, .int 1, .int 0, .int 0, .int 0, .null, .int 0, .int 0, .int 0, .int 0, .long 0, .int 0, .int (-1), .ref q_3, .ref q_5])), (q_3, .inl (cA_4, 60, .inl (fun _ => 0))), (q_5, .inl (cA_6, 60, .inl (fun _ => 0)))] H := hP
  have hD : va_D A [(h0, .inr (7, [.int 0, .ref q_1, .int 0, .int 0, .int 1, .int 0, .int 0, .int 0, .null, .int 0, .int 0, .int 0, .int 0, .long 0, .int 0, .int (-1), .ref q_3, .ref q_5])), (q_3, .inl (cA_4, 60, .inl (fun _ => 0))), (q_5, .inl (cA_6, 60, .inl (fun _ => 0)))] := hD
  refine W.widen (k := 3) (n := 120) (Nat.le_of_ble_eq_true rfl) (Nat.le_of_ble_eq_true rfl) ?_
  exact W.vret hx hb hr (fun t ht hW => ⟨⟨(), rfl, trivial, q_1, q_3, q_5, cA_4, cA_6, by rw [ht]; exact hP, va_K.moved hW.alike hK, hD⟩, hS.F ht⟩) hS.2.2 dX7_init_102
end
section
theorem dX11_init_0 : decode cX11_init 0 = .ok (.aload_n 0, 1) := by decide +kernel
theorem dX11_init_1 : decode cX11_init 1 = .ok (.invokespecial 3, 3) := by decide +kernel
theorem dX11_init_4 : decode cX11_init 4 = .ok (.aload_n 0, 1) := by decide +kernel
theorem dX11_init_5 : decode cX11_init 5 = .ok (.sipush 8192, 3) := by decide +kernel
theorem dX11_init_8 : decode cX11_init 8 = .ok (.newarray .byte, 2) := by decide +kernel
theorem dX11_init_10 : decode cX11_init 10 = .ok (.putfield 9, 3) := by decide +kernel
theorem dX11_init_13 : decode cX11_init 13 = .ok (.aload_n 0, 1) := by decide +kernel
theorem dX11_init_14 : decode cX11_init 14 = .ok (.iconst 0, 1) := by decide +kernel
theorem dX11_init_15 : decode cX11_init 15 = .ok (.putfield 13, 3) := by decide +kernel
theorem dX11_init_18 : decode cX11_init 18 = .ok (.aload_n 0, 1) := by decide +kernel
theorem dX11_init_19 : decode cX11_init 19 = .ok (.iconst (-1), 1) := by decide +kernel
theorem dX11_init_20 : decode cX11_init 20 = .ok (.putfield 17, 3) := by decide +kernel
theorem dX11_init_23 : decode cX11_init 23 = .ok (.aload_n 0, 1) := by decide +kernel
theorem dX11_init_24 : decode cX11_init 24 = .ok (.new 20, 3) := by decide +kernel
theorem dX11_init_27 : decode cX11_init 27 = .ok (.dup, 1) := by decide +kernel
theorem dX11_init_28 : decode cX11_init 28 = .ok (.invokespecial 22, 3) := by decide +kernel
theorem dX11_init_31 : decode cX11_init 31 = .ok (.putfield 23, 3) := by decide +kernel
theorem dX11_init_34 : decode cX11_init 34 = .ok (.aload_n 0, 1) := by decide +kernel
theorem dX11_init_35 : decode cX11_init 35 = .ok (.new 20, 3) := by decide +kernel
theorem dX11_init_38 : decode cX11_init 38 = .ok (.dup, 1) := by decide +kernel
theorem dX11_init_39 : decode cX11_init 39 = .ok (.invokespecial 22, 3) := by decide +kernel
theorem dX11_init_42 : decode cX11_init 42 = .ok (.putfield 27, 3) := by decide +kernel
theorem dX11_init_45 : decode cX11_init 45 = .ok (.aload_n 0, 1) := by decide +kernel
theorem dX11_init_46 : decode cX11_init 46 = .ok (.new 30, 3) := by decide +kernel
theorem dX11_init_49 : decode cX11_init 49 = .ok (.dup, 1) := by decide +kernel
theorem dX11_init_50 : decode cX11_init 50 = .ok (.invokespecial 32, 3) := by decide +kernel
theorem dX11_init_53 : decode cX11_init 53 = .ok (.putfield 33, 3) := by decide +kernel
theorem dX11_init_56 : decode cX11_init 56 = .ok (.aload_n 0, 1) := by decide +kernel
theorem dX11_init_57 : decode cX11_init 57 = .ok (.iconst 0, 1) := by decide +kernel
theorem dX11_init_58 : decode cX11_init 58 = .ok (.putfield 37, 3) := by decide +kernel
theorem dX11_init_61 : decode cX11_init 61 = .ok (.aload_n 0, 1) := by decide +kernel
theorem dX11_init_62 : decode cX11_init 62 = .ok (.new 41, 3) := by decide +kernel
theorem dX11_init_65 : decode cX11_init 65 = .ok (.dup, 1) := by decide +kernel
theorem dX11_init_66 : decode cX11_init 66 = .ok (.invokespecial 43, 3) := by decide +kernel
theorem dX11_init_69 : decode cX11_init 69 = .ok (.putfield 44, 3) := by decide +kernel
theorem dX11_init_72 : decode cX11_init 72 = .ok (.aload_n 0, 1) := by decide +kernel
theorem dX11_init_73 : decode cX11_init 73 = .ok (.iconst 0, 1) := by decide +kernel
theorem dX11_init_74 : decode cX11_init 74 = .ok (.putfield 48, 3) := by decide +kernel
theorem dX11_init_77 : decode cX11_init 77 = .ok (.aload_n 0, 1) := by decide +kernel
theorem dX11_init_78 : decode cX11_init 78 = .ok (.new 51, 3) := by decide +kernel
theorem dX11_init_81 : decode cX11_init 81 = .ok (.dup, 1) := by decide +kernel
theorem dX11_init_82 : decode cX11_init 82 = .ok (.invokespecial 53, 3) := by decide +kernel
theorem dX11_init_85 : decode cX11_init 85 = .ok (.putfield 54, 3) := by decide +kernel
theorem dX11_init_88 : decode cX11_init 88 = .ok (.aload_n 0, 1) := by decide +kernel
theorem dX11_init_89 : decode cX11_init 89 = .ok (.new 58, 3) := by decide +kernel
theorem dX11_init_92 : decode cX11_init 92 = .ok (.dup, 1) := by decide +kernel
theorem dX11_init_93 : decode cX11_init 93 = .ok (.invokespecial 60, 3) := by decide +kernel
theorem dX11_init_96 : decode cX11_init 96 = .ok (.putfield 61, 3) := by decide +kernel
theorem dX11_init_99 : decode cX11_init 99 = .ok (.aload_n 0, 1) := by decide +kernel
theorem dX11_init_100 : decode cX11_init 100 = .ok (.new 65, 3) := by decide +kernel
theorem dX11_init_103 : decode cX11_init 103 = .ok (.dup, 1) := by decide +kernel
theorem dX11_init_104 : decode cX11_init 104 = .ok (.invokespecial 67, 3) := by decide +kernel
theorem dX11_init_107 : decode cX11_init 107 = .ok (.putfield 68, 3) := by decide +kernel
theorem dX11_init_110 : decode cX11_init 110 = .ok (.aload_n 0, 1) := by decide +kernel
theorem dX11_init_111 : decode cX11_init 111 = .ok (.new 72, 3) := by decide +kernel
theorem dX11_init_114 : decode cX11_init 114 = .ok (.dup, 1) := by decide +kernel
theorem dX11_init_115 : decode cX11_init 115 = .ok (.invokespecial 74, 3) := by decide +kernel
theorem dX11_init_118 : decode cX11_init 118 = .ok (.putfield 75, 3) := by decide +kernel
theorem dX11_init_121 : decode cX11_init 121 = .ok (.aload_n 0, 1) := by decide +kernel
theorem dX11_init_122 : decode cX11_init 122 = .ok (.new 79, 3) := by decide +kernel
theorem dX11_init_125 : decode cX11_init 125 = .ok (.dup, 1) := by decide +kernel
theorem dX11_init_126 : decode cX11_init 126 = .ok (.invokespecial 81, 3) := by decide +kernel
theorem dX11_init_129 : decode cX11_init 129 = .ok (.putfield 82, 3) := by decide +kernel
theorem dX11_init_132 : decode cX11_init 132 = .ok (.aload_n 0, 1) := by decide +kernel
theorem dX11_init_133 : decode cX11_init 133 = .ok (.new 86, 3) := by decide +kernel
theorem dX11_init_136 : decode cX11_init 136 = .ok (.dup, 1) := by decide +kernel
theorem dX11_init_137 : decode cX11_init 137 = .ok (.invokespecial 88, 3) := by decide +kernel
theorem dX11_init_140 : decode cX11_init 140 = .ok (.putfield 89, 3) := by decide +kernel
theorem dX11_init_143 : decode cX11_init 143 = .ok (.aload_n 0, 1) := by decide +kernel
theorem dX11_init_144 : decode cX11_init 144 = .ok (.new 93, 3) := by decide +kernel
theorem dX11_init_147 : decode cX11_init 147 = .ok (.dup, 1) := by decide +kernel
theorem dX11_init_148 : decode cX11_init 148 = .ok (.invokespecial 95, 3) := by decide +kernel
theorem dX11_init_151 : decode cX11_init 151 = .ok (.putfield 96, 3) := by decide +kernel
theorem dX11_init_154 : decode cX11_init 154 = .ok (.aload_n 0, 1) := by decide +kernel
theorem dX11_init_155 : decode cX11_init 155 = .ok (.new 100, 3) := by decide +kernel
theorem dX11_init_158 : decode cX11_init 158 = .ok (.dup, 1) := by decide +kernel
theorem dX11_init_159 : decode cX11_init 159 = .ok (.invokespecial 102, 3) := by decide +kernel
theorem dX11_init_162 : decode cX11_init 162 = .ok (.putfield 103, 3) := by decide +kernel
theorem dX11_init_165 : decode cX11_init 165 = .ok (.return_, 1) := by decide +kernel
def o_X11_init : List Cond := [.methodLink RX11 3 objectInit, .instanceMethod objectInit, .code objectInit ⟨#[0xb1]⟩ 1 none, .arrayClass .byte, .fieldLink RX11 9 "SsaForge" "tape" "[B", .fieldLink RX11 13 "SsaForge" "tapeLength" "I", .fieldLink RX11 17 "SsaForge" "form" "I", .classLink RX11 20 RX0, .instantiable RX0 19, .initialized RX0, .instanceMethod yX0_init, .fieldLink RX11 23 "SsaForge" "code" "LSsaForge$Code;", .fieldLink RX11 27 "SsaForge" "spare" "LSsaForge$Code;", .classLink RX11 30 RX2, .instantiable RX2 13, .initialized RX2, .instanceMethod yX2_init, .fieldLink RX11 33 "SsaForge" "flow" "LSsaForge$Flow;", .fieldLink RX11 37 "SsaForge" "flowKnown" "Z", .classLink RX11 41 RX4, .instantiable RX4 8, .initialized RX4, .instanceMethod yX4_init, .fieldLink RX11 44 "SsaForge" "live" "LSsaForge$Live;", .fieldLink RX11 48 "SsaForge" "liveKnown" "Z", .classLink RX11 51 RX7, .instantiable RX7 18, .initialized RX7, .instanceMethod yX7_init, .fieldLink RX11 54 "SsaForge" "reader" "LSsaForge$Reader;", .classLink RX11 58 RX8, .instantiable RX8 8, .initialized RX8, .instanceMethod yX8_init, .fieldLink RX11 61 "SsaForge" "ssaMaker" "LSsaForge$SsaMaker;", .classLink RX11 65 RX1, .instantiable RX1 6, .initialized RX1, .instanceMethod yX1_init, .fieldLink RX11 68 "SsaForge" "constants" "LSsaForge$Constants;", .classLink RX11 72 RX3, .instantiable RX3 5, .initialized RX3, .instanceMethod yX3_init, .fieldLink RX11 75 "SsaForge" "likes" "LSsaForge$Likes;", .classLink RX11 79 RX9, .instantiable RX9 9, .initialized RX9, .instanceMethod yX9_init, .fieldLink RX11 82 "SsaForge" "tidier" "LSsaForge$Tidier;", .classLink RX11 86 RX10, .instantiable RX10 14, .initialized RX10, .instanceMethod yX10_init, .fieldLink RX11 89 "SsaForge" "wayOut" "LSsaForge$WayOut;", .classLink RX11 93 RX5, .instantiable RX5 11, .initialized RX5, .instanceMethod yX5_init, .fieldLink RX11 96 "SsaForge" "machine" "LSsaForge$Machine;", .classLink RX11 100 RX6, .instantiable RX6 5, .initialized RX6, .instanceMethod yX6_init, .fieldLink RX11 103 "SsaForge" "printer" "LSsaForge$Printer;"]
def v_X11_init : List Cond := .code yX11_init cX11_init 1 none :: (o_X11_init ++ (wsX110 ++ (wsX00 ++ (v_X0_init ++ (wsX20 ++ (v_X2_init ++ (wsX40 ++ (v_X4_init ++ (wsX70 ++ (v_X7_init ++ (wsX80 ++ (v_X8_init ++ (wsX10 ++ (v_X1_init ++ (wsX30 ++ (v_X3_init ++ (wsX90 ++ (v_X9_init ++ (wsX100 ++ (v_X10_init ++ (wsX50 ++ (v_X5_init ++ (wsX60 ++ (v_X6_init ++ []))))))))))))))))))))))))
theorem mow_X11_init : ∀ w ∈ o_X11_init, w ∈ v_X11_init := fun _ h => List.mem_cons_of_mem _ (List.mem_append_left _ h)
theorem mem_X11_init_0 : ∀ w ∈ wsX110, w ∈ v_X11_init := fun _ h => List.mem_cons_of_mem _ (List.mem_append_right _ (List.mem_append_left _ h))
theorem mem_X11_init_1 : ∀ w ∈ wsX00, w ∈ v_X11_init := fun _ h => List.mem_cons_of_mem _ (List.mem_append_right _ (List.mem_append_right _ (List.mem_append_left _ h)))
theorem mem_X11_init_2 : ∀ w ∈ v_X0_init, w ∈ v_X11_init := fun _ h => List.mem_cons_of_mem _ (List.mem_append_right _ (List.mem_append_right _ (List.mem_append_right _ (List.mem_append_left _ h))))
theorem mem_X11_init_3 : ∀ w ∈ wsX20, w ∈ v_X11_init := fun _ h => List.mem_cons_of_mem _ (List.mem_append_right _ (List.mem_append_right _ (List.mem_append_right _ (List.mem_append_right _ (List.mem_append_left _ h)))))
theorem mem_X11_init_4 : ∀ w ∈ v_X2_init, w ∈ v_X11_init := fun _ h => List.mem_cons_of_mem _ (List.mem_append_right _ (List.mem_append_right _ (List.mem_append_right _ (List.mem_append_right _ (List.mem_append_right _ (List.mem_append_left _ h))))))
theorem mem_X11_init_5 : ∀ w ∈ wsX40, w ∈ v_X11_init := fun _ h => List.mem_cons_of_mem _ (List.mem_append_right _ (List.mem_append_right _ (List.mem_append_right _ (List.mem_append_right _ (List.mem_append_right _ (List.mem_append_right _ (List.mem_append_left _ h)))))))
theorem mem_X11_init_6 : ∀ w ∈ v_X4_init, w ∈ v_X11_init := fun _ h => List.mem_cons_of_mem _ (List.mem_append_right _ (List.mem_append_right _ (List.mem_append_right _ (List.mem_append_right _ (List.mem_append_right _ (List.mem_append_right _ (List.mem_append_right _ (List.mem_append_left _ h))))))))
theorem mem_X11_init_7 : ∀ w ∈ wsX70, w ∈ v_X11_init := fun _ h => List.mem_cons_of_mem _ (List.mem_append_right _ (List.mem_append_right _ (List.mem_append_right _ (List.mem_append_right _ (List.mem_append_right _ (List.mem_append_right _ (List.mem_append_right _ (List.mem_append_right _ (List.mem_append_left _ h)))))))))
theorem mem_X11_init_8 : ∀ w ∈ v_X7_init, w ∈ v_X11_init := fun _ h => List.mem_cons_of_mem _ (List.mem_append_right _ (List.mem_append_right _ (List.mem_append_right _ (List.mem_append_right _ (List.mem_append_right _ (List.mem_append_right _ (List.mem_append_right _ (List.mem_append_right _ (List.mem_append_right _ (List.mem_append_left _ h))))))))))
theorem mem_X11_init_9 : ∀ w ∈ wsX80, w ∈ v_X11_init := fun _ h => List.mem_cons_of_mem _ (List.mem_append_right _ (List.mem_append_right _ (List.mem_append_right _ (List.mem_append_right _ (List.mem_append_right _ (List.mem_append_right _ (List.mem_append_right _ (List.mem_append_right _ (List.mem_append_right _ (List.mem_append_right _ (List.mem_append_left _ h)))))))))))
theorem mem_X11_init_10 : ∀ w ∈ v_X8_init, w ∈ v_X11_init := fun _ h => List.mem_cons_of_mem _ (List.mem_append_right _ (List.mem_append_right _ (List.mem_append_right _ (List.mem_append_right _ (List.mem_append_right _ (List.mem_append_right _ (List.mem_append_right _ (List.mem_append_right _ (List.mem_append_right _ (List.mem_append_right _ (List.mem_append_right _ (List.mem_append_left _ h))))))))))))
theorem mem_X11_init_11 : ∀ w ∈ wsX10, w ∈ v_X11_init := fun _ h => List.mem_cons_of_mem _ (List.mem_append_right _ (List.mem_append_right _ (List.mem_append_right _ (List.mem_append_right _ (List.mem_append_right _ (List.mem_append_right _ (List.mem_append_right _ (List.mem_append_right _ (List.mem_append_right _ (List.mem_append_right _ (List.mem_append_right _ (List.mem_append_right _ (List.mem_append_left _ h)))))))))))))
theorem mem_X11_init_12 : ∀ w ∈ v_X1_init, w ∈ v_X11_init := fun _ h => List.mem_cons_of_mem _ (List.mem_append_right _ (List.mem_append_right _ (List.mem_append_right _ (List.mem_append_right _ (List.mem_append_right _ (List.mem_append_right _ (List.mem_append_right _ (List.mem_append_right _ (List.mem_append_right _ (List.mem_append_right _ (List.mem_append_right _ (List.mem_append_right _ (List.mem_append_right _ (List.mem_append_left _ h))))))))))))))
theorem mem_X11_init_13 : ∀ w ∈ wsX30, w ∈ v_X11_init := fun _ h => List.mem_cons_of_mem _ (List.mem_append_right _ (List.mem_append_right _ (List.mem_append_right _ (List.mem_append_right _ (List.mem_append_right _ (List.mem_append_right _ (List.mem_append_right _ (List.mem_append_right _ (List.mem_append_right _ (List.mem_append_right _ (List.mem_append_right _ (List.mem_append_right _ (List.mem_append_right _ (List.mem_append_right _ (List.mem_append_left _ h)))))))))))))))
theorem mem_X11_init_14 : ∀ w ∈ v_X3_init, w ∈ v_X11_init := fun _ h => List.mem_cons_of_mem _ (List.mem_append_right _ (List.mem_append_right _ (List.mem_append_right _ (List.mem_append_right _ (List.mem_append_right _ (List.mem_append_right _ (List.mem_append_right _ (List.mem_append_right _ (List.mem_append_right _ (List.mem_append_right _ (List.mem_append_right _ (List.mem_append_right _ (List.mem_append_right _ (List.mem_append_right _ (List.mem_append_right _ (List.mem_append_left _ h))))))))))))))))
theorem mem_X11_init_15 : ∀ w ∈ wsX90, w ∈ v_X11_init := fun _ h => List.mem_cons_of_mem _ (List.mem_append_right _ (List.mem_append_right _ (List.mem_append_right _ (List.mem_append_right _ (List.mem_append_right _ (List.mem_append_right _ (List.mem_append_right _ (List.mem_append_right _ (List.mem_append_right _ (List.mem_append_right _ (List.mem_append_right _ (List.mem_append_right _ (List.mem_append_right _ (List.mem_append_right _ (List.mem_append_right _ (List.mem_append_right _ (List.mem_append_left _ h)))))))))))))))))
theorem mem_X11_init_16 : ∀ w ∈ v_X9_init, w ∈ v_X11_init := fun _ h => List.mem_cons_of_mem _ (List.mem_append_right _ (List.mem_append_right _ (List.mem_append_right _ (List.mem_append_right _ (List.mem_append_right _ (List.mem_append_right _ (List.mem_append_right _ (List.mem_append_right _ (List.mem_append_right _ (List.mem_append_right _ (List.mem_append_right _ (List.mem_append_right _ (List.mem_append_right _ (List.mem_append_right _ (List.mem_append_right _ (List.mem_append_right _ (List.mem_append_right _ (List.mem_append_left _ h))))))))))))))))))
theorem mem_X11_init_17 : ∀ w ∈ wsX100, w ∈ v_X11_init := fun _ h => List.mem_cons_of_mem _ (List.mem_append_right _ (List.mem_append_right _ (List.mem_append_right _ (List.mem_append_right _ (List.mem_append_right _ (List.mem_append_right _ (List.mem_append_right _ (List.mem_append_right _ (List.mem_append_right _ (List.mem_append_right _ (List.mem_append_right _ (List.mem_append_right _ (List.mem_append_right _ (List.mem_append_right _ (List.mem_append_right _ (List.mem_append_right _ (List.mem_append_right _ (List.mem_append_right _ (List.mem_append_left _ h)))))))))))))))))))
theorem mem_X11_init_18 : ∀ w ∈ v_X10_init, w ∈ v_X11_init := fun _ h => List.mem_cons_of_mem _ (List.mem_append_right _ (List.mem_append_right _ (List.mem_append_right _ (List.mem_append_right _ (List.mem_append_right _ (List.mem_append_right _ (List.mem_append_right _ (List.mem_append_right _ (List.mem_append_right _ (List.mem_append_right _ (List.mem_append_right _ (List.mem_append_right _ (List.mem_append_right _ (List.mem_append_right _ (List.mem_append_right _ (List.mem_append_right _ (List.mem_append_right _ (List.mem_append_right _ (List.mem_append_right _ (List.mem_append_left _ h))))))))))))))))))))
theorem mem_X11_init_19 : ∀ w ∈ wsX50, w ∈ v_X11_init := fun _ h => List.mem_cons_of_mem _ (List.mem_append_right _ (List.mem_append_right _ (List.mem_append_right _ (List.mem_append_right _ (List.mem_append_right _ (List.mem_append_right _ (List.mem_append_right _ (List.mem_append_right _ (List.mem_append_right _ (List.mem_append_right _ (List.mem_append_right _ (List.mem_append_right _ (List.mem_append_right _ (List.mem_append_right _ (List.mem_append_right _ (List.mem_append_right _ (List.mem_append_right _ (List.mem_append_right _ (List.mem_append_right _ (List.mem_append_right _ (List.mem_append_left _ h)))))))))))))))))))))
theorem mem_X11_init_20 : ∀ w ∈ v_X5_init, w ∈ v_X11_init := fun _ h => List.mem_cons_of_mem _ (List.mem_append_right _ (List.mem_append_right _ (List.mem_append_right _ (List.mem_append_right _ (List.mem_append_right _ (List.mem_append_right _ (List.mem_append_right _ (List.mem_append_right _ (List.mem_append_right _ (List.mem_append_right _ (List.mem_append_right _ (List.mem_append_right _ (List.mem_append_right _ (List.mem_append_right _ (List.mem_append_right _ (List.mem_append_right _ (List.mem_append_right _ (List.mem_append_right _ (List.mem_append_right _ (List.mem_append_right _ (List.mem_append_right _ (List.mem_append_left _ h))))))))))))))))))))))
theorem mem_X11_init_21 : ∀ w ∈ wsX60, w ∈ v_X11_init := fun _ h => List.mem_cons_of_mem _ (List.mem_append_right _ (List.mem_append_right _ (List.mem_append_right _ (List.mem_append_right _ (List.mem_append_right _ (List.mem_append_right _ (List.mem_append_right _ (List.mem_append_right _ (List.mem_append_right _ (List.mem_append_right _ (List.mem_append_right _ (List.mem_append_right _ (List.mem_append_right _ (List.mem_append_right _ (List.mem_append_right _ (List.mem_append_right _ (List.mem_append_right _ (List.mem_append_right _ (List.mem_append_right _ (List.mem_append_right _ (List.mem_append_right _ (List.mem_append_right _ (List.mem_append_left _ h)))))))))))))))))))))))
theorem mem_X11_init_22 : ∀ w ∈ v_X6_init, w ∈ v_X11_init := fun _ h => List.mem_cons_of_mem _ (List.mem_append_right _ (List.mem_append_right _ (List.mem_append_right _ (List.mem_append_right _ (List.mem_append_right _ (List.mem_append_right _ (List.mem_append_right _ (List.mem_append_right _ (List.mem_append_right _ (List.mem_append_right _ (List.mem_append_right _ (List.mem_append_right _ (List.mem_append_right _ (List.mem_append_right _ (List.mem_append_right _ (List.mem_append_right _ (List.mem_append_right _ (List.mem_append_right _ (List.mem_append_right _ (List.mem_append_right _ (List.mem_append_right _ (List.mem_append_right _ (List.mem_append_right _ (List.mem_append_left _ h))))))))))))))))))))))))
set_option maxRecDepth 20000 in
theorem gw_X11_init : v_X11_init.all goodWord = true := by decide +kernel
set_option maxHeartbeats 4000000 in
set_option maxRecDepth 100000 in
theorem c_X11_init (l : Launch) (dC : Nat → ClassId) (dI : Nat → Nat → Nat) (h0 : Nat) (sz : Nat) : Met l yX11_init v_X11_init ({ frames := 2, cells := 102, slots := 112307, locals := 32 }) (va_Pc [.ref h0] (fun U => U.heap.size = sz ∧ va_P (dC, dI) vwP [(h0, .inr (11, [.null, .int 0, .int 0, .null, .null, .null, .int 0, .null, .int 0, .null, .null, .null, .null, .null, .null, .null, .null]))] U.heap ∧ va_K (dC, dI) vwP [] U ∧ va_D (fun _ => True) [(h0, .inr (11, [.null, .int 0, .int 0, .null, .null, .null, .int 0, .null, .int 0, .null, .null, .null, .null, .null, .null, .null, .null]))] ∧ va_Nw (.methodLinkNest RX11 22 yX0_init "SsaForge") U ∧ va_Nw (.methodLinkNest RX11 32 yX2_init "SsaForge") U ∧ va_Nw (.methodLinkNest RX11 43 yX4_init "SsaForge") U ∧ va_Nw (.methodLinkNest RX11 53 yX7_init "SsaForge") U ∧ va_Nw (.methodLinkNest RX11 60 yX8_init "SsaForge") U ∧ va_Nw (.methodLinkNest RX11 67 yX1_init "SsaForge") U ∧ va_Nw (.methodLinkNest RX11 74 yX3_init "SsaForge") U ∧ va_Nw (.methodLinkNest RX11 81 yX9_init "SsaForge") U ∧ va_Nw (.methodLinkNest RX11 88 yX10_init "SsaForge") U ∧ va_Nw (.methodLinkNest RX11 95 yX5_init "SsaForge") U ∧ va_Nw (.methodLinkNest RX11 102 yX6_init "SsaForge") U)) (va_Qv (fun _ : Unit => True) (fun (_ : Unit) (t : State) => ∃ (q_1 : Nat) (q_3 : Nat) (q_21 : Nat) (q_39 : Nat) (q_52 : Nat) (q_60 : Nat) (q_66 : Nat) (q_73 : Nat) (q_79 : Nat) (q_84 : Nat) (q_92 : Nat) (q_102 : Nat) (q_107 : Nat) (cA_2 : ClassId) (q_4 : Nat) (q_5 : Nat) (q_6 : Nat) (q_7 : Nat) (q_8 : Nat) (q_9 : Nat) (q_10 : Nat) (q_11 : Nat) (q_12 : Nat) (q_13 : Nat) (q_14 : Nat) (q_15 : Nat) (q_16 : Nat) (q_17 : Nat) (q_18 : Nat) (cA_19 : ClassId) (cA_20 : ClassId) (q_61 : Nat) (q_62 : Nat) (q_63 : Nat) (cA_64 : ClassId) (cA_65 : ClassId) (q_103 : Nat) (q_104 : Nat) (q_105 : Nat) (q_106 : Nat) (q_108 : Nat) (q_109 : Nat), va_P (dC, dI) vwP [(h0, .inr (11, [.ref q_1, .int 0, .int (-1), .ref q_3, .ref q_21, .ref q_39, .int 0, .ref q_52, .int 0, .ref q_60, .ref q_66, .ref q_73, .ref q_79, .ref q_84, .ref q_92, .ref q_102, .ref q_107])), (q_1, .inl (cA_2, 8192, .inl (fun _ => 0))), (q_3, .inr (0, [.int 0, .int 0, .int 0, .int 0, .ref q_4, .ref q_5, .ref q_6, .ref q_7, .ref q_8, .ref q_9, .ref q_10, .ref q_11, .ref q_12, .ref q_13, .ref q_14, .ref q_15, .ref q_16, .ref q_17, .ref q_18])), (q_4, .inl (cA_19, 301, .inl (fun _ => 0))), (q_15, .inl (cA_20, 301, .inl (fun _ => 0))), (q_60, .inr (7, [.int 0, .ref q_61, .int 0, .int 0, .int 1, .int 0, .int 0, .int 0, .null, .int 0, .int 0, .int 0, .int 0, .long 0, .int 0, .int (-1), .ref q_62, .ref q_63])), (q_62, .inl (cA_64, 60, .inl (fun _ => 0))), (q_63, .inl (cA_65, 60, .inl (fun _ => 0))), (q_102, .inr (5, [.int 0, .int 0, .int 0, .int 0, .int 0, .int (-1), .ref q_103, .ref q_104, .ref q_105, .ref q_106, .int 0])), (q_107, .inr (6, [.int 0, .ref q_108, .ref q_109, .int 0, .int 0]))] t.heap ∧ va_K (dC, dI) vwP [(cA_2, .byte), (cA_19, .int), (cA_20, .int), (cA_64, .boolean), (cA_65, .int)] t ∧ va_D (va_A [(h0, .inr (11, [.null, .int 0, .int 0, .null, .null, .null, .int 0, .null, .int 0, .null, .null, .null, .null, .null, .null, .null, .null]))] sz) [(h0, .inr (11, [.ref q_1, .int 0, .int (-1), .ref q_3, .ref q_21, .ref q_39, .int 0, .ref q_52, .int 0, .ref q_60, .ref q_66, .ref q_73, .ref q_79, .ref q_84, .ref q_92, .ref q_102, .ref q_107])), (q_1, .inl (cA_2, 8192, .inl (fun _ => 0))), (q_3, .inr (0, [.int 0, .int 0, .int 0, .int 0, .ref q_4, .ref q_5, .ref q_6, .ref q_7, .ref q_8, .ref q_9, .ref q_10, .ref q_11, .ref q_12, .ref q_13, .ref q_14, .ref q_15, .ref q_16, .ref q_17, .ref q_18])), (q_4, .inl (cA_19, 301, .inl (fun _ => 0))), (q_15, .inl (cA_20, 301, .inl (fun _ => 0))), (q_60, .inr (7, [.int 0, .ref q_61, .int 0, .int 0, .int 1, .int 0, .int 0, .int 0, .null, .int 0, .int 0, .int 0, .int 0, .long 0, .int 0, .int (-1), .ref q_62, .ref q_63])), (q_62, .inl (cA_64, 60, .inl (fun _ => 0))), (q_63, .inl (cA_65, 60, .inl (fun _ => 0))), (q_102, .inr (5, [.int 0, .int 0, .int 0, .int 0, .int 0, .int (-1), .ref q_103, .ref q_104, .ref q_105, .ref q_106, .int 0])), (q_107, .inr (6, [.int 0, .ref q_108, .ref q_109, .int 0, .int 0]))]) (va_A [(h0, .inr (11, [.null, .int 0, .int 0, .null, .null, .null, .int 0, .null, .int 0, .null, .null, .null, .null, .null, .null, .null, .null]))] sz)) 102 112307 (va_A [(h0, .inr (11, [.null, .int 0, .int 0, .null, .null, .null, .int 0, .null, .int 0, .null, .null, .null, .null, .null, .null, .null, .null]))] sz) := by
  refine Met.ofW (cc := cX11_init) (maxL := 1) (ret := none) (by decide) rfl ?_
  intro p e s m args below meth c s₁ B hml hv
  obtain ⟨rfl, hsz, hP, hK, hD0, hp0, hp1, hp2, hp3, hp4, hp5, hp6, hp7, hp8, hp9, hp10⟩ := hv
  have hx := B.exec
  have hb := B.bytes
  have hr := B.returns
  have hts := atoms_spec (ws := v_X11_init) B.pre
  have hown : s.vm.findClass RX11 = some m.cls := findClass_of_methodNamed B.named
  have hlocks := B.notSynchronized
  have ow : ∀ {k : Nat} {w : Cond}, o_X11_init[k]? = some w → w.before ([.ref h0] : List Value).toArray s = true := fun h => hts _ (mow_X11_init _ (List.mem_of_getElem? h))
  have hin : meth.name = "<init>" := (name_of_methodNamed B.named B.method).1
  subst hsz
  have hD := hD0.self (sz := s.heap.size)
  generalize hAe : va_A [(h0, .inr (11, [.null, .int 0, .int 0, .null, .null, .null, .int 0, .null, .int 0, .null, .null, .null, .null, .null, .null, .null, .null]))] s.heap.size = A at hD ⊢
  have hA : ∀ q : Nat, s.heap.size ≤ q → A q := fun q h => by rw [← hAe]; exact Or.inr h
  have hS : va_S A s.heap s.heap [] := va_S.rf
  have hP : va_P (dC, dI) vwP [(h0, .inr (11, [.null, .int 0, .int 0, .null, .null, .null, .int 0, .null, .int 0, .null, .null, .null, .null, .null, .null, .null, .null]))] s.heap := hP
  have hl := lv_entry ([.ref h0]) (n := 1) (Nat.le_of_ble_eq_true rfl)
  rw [lg_entry_eq]
  generalize (lg_sl ([.ref h0]) ++ List.replicate (1 - (lg_sl ([.ref h0])).length) Slot.unset).toArray = ls at hl ⊢
  have hl : lv_has ls 1 [(0, .ref h0)] := hl
  obtain ⟨H, hH⟩ : ∃ H, H = s.heap := ⟨_, rfl⟩
  rw [← hH] at hP
  have hS : va_S A s.heap H [] := by rw [hH]; exact hS
  rw [← hH]
  refine lv_aload_n hx hb dX11_init_0 rfl (lv_at hl 0 rfl) ?_
  refine W.objInit hx hb hown (ow (k := 0) rfl) (ow (k := 1) rfl) (ow (k := 2) rfl) rfl (by rw [hml]; exact hl.1) rfl dX11_init_1 (Nat.le_of_ble_eq_true rfl) (Nat.le_of_ble_eq_true rfl) ?_
  refine W.eq (g2 := F0 m 4 ls []) rfl ?_
  refine lv_aload_n hx hb dX11_init_4 rfl (lv_at hl 0 rfl) ?_
  refine lv_sipush (v := 8192) hx hb dX11_init_5 (by decide) ?_
  refine va_newa (ty := .byte) (n := 8192) (N' := 8192) (a0 := (8192, .inl (fun _ => 0))) hx hb (ow (k := 3) rfl) rfl hK hP hD hS hA (fun _ => rfl) (by decide) (by decide) (by decide) (Nat.le_of_ble_eq_true rfl) (Nat.le_of_ble_eq_true rfl) dX11_init_8 (fun q_1 cA_2 H hK hP hD hS => ?_)
  have hP : va_P (dC, dI) vwP [(h0, .inr (11, [.null, .int 0, .int 0, .null, .null, .null, .int 0, .null, .int 0, .null, .null, .null, .null, .null, .null, .null, .null])), (q_1, .inl (cA_2, 8192, .inl (fun _ => 0)))] H := hP
  have hD : va_D A [(h0, .inr (11, [.null, .int 0, .int 0, .null, .null, .null, .int 0, .null, .int 0, .null, .null, .null, .null, .null, .null, .null, .null])), (q_1, .inl (cA_2, 8192, .inl (fun _ => 0)))] := hD
  have hK : va_K (dC, dI) vwP [(cA_2, .byte)] s := hK
  refine W.widen (k := 1) (n := 8192) (Nat.le_of_ble_eq_true rfl) (Nat.le_of_ble_eq_true rfl) ?_
  refine va_putF (D := (dC, dI)) (ci := 11) (v := .ref q_1) (ty := .array .byte) (C := RX11) (T := TX11) (N := 17) hx hb hts mem_X11_init_0 tyX11 tyX11_ok nmX11 hown hK hP hD hS 0 rfl rfl 0 (by decide) (ow (k := 4) rfl) (fun _ h9 => h9) rfl hin rfl (by decide +kernel) rfl rfl (Nat.le_of_ble_eq_true rfl) dX11_init_10 (fun H locs hP hD hS => ?_)
  have hP : va_P (dC, dI) vwP [(h0, .inr (11, [.ref q_1, .int 0, .int 0, .null, .null, .null, .int 0, .null, .int 0, .null, .null, .null, .null, .null, .null, .null, .null])), (q_1, .inl (cA_2, 8192, .inl (fun _ => 0)))] H := hP
  have hD : va_D A [(h0, .inr (11, [.ref q_1, .int 0, .int 0, .null, .null, .null, .int 0, .null, .int 0, .null, .null, .null, .null, .null, .null, .null, .null])), (q_1, .inl (cA_2, 8192, .inl (fun _ => 0)))] := hD
  refine lv_aload_n hx hb dX11_init_13 rfl (lv_at hl 0 rfl) ?_
  refine lv_iconst (v := 0) hx hb dX11_init_14 (by decide) ?_
  refine va_put (D := (dC, dI)) (ci := 11) (v := .int 0) (ty := .int) (C := RX11) (T := TX11) (N := 17) hx hb hts mem_X11_init_0 tyX11 tyX11_ok nmX11 hown hK hP hD hS 0 rfl rfl 1 (by decide) (ow (k := 5) rfl) (fun _ h9 => h9) rfl (by decide +kernel) rfl rfl (Nat.le_of_ble_eq_true rfl) dX11_init_15 (fun H locs hP hD hS => ?_)
  have hP : va_P (dC, dI) vwP [(h0, .inr (11, [.ref q_1, .int 0, .int 0, .null, .null, .null, .int 0, .null, .int 0, .null, .null, .null, .null, .null, .null, .null, .null])), (q_1, .inl (cA_2, 8192, .inl (fun _ => 0)))] H := hP
  have hD : va_D A [(h0, .inr (11, [.ref q_1, .int 0, .int 0, .null, .null, .null, .int 0, .null, .int 0, .null, .null, .null, .null, .null, .null, .null, .null])), (q_1, .inl (cA_2, 8192, .inl (fun _ => 0)))] := hD
  refine lv_aload_n hx hb dX11_init_18 rfl (lv_at hl 0 rfl) ?_
  refine lv_iconst (v := (-1)) hx hb dX11_init_19 (by decide) ?_
  refine va_put (D := (dC, dI)) (ci := 11) (v := .int (-1)) (ty := .int) (C := RX11) (T := TX11) (N := 17) hx hb hts mem_X11_init_0 tyX11 tyX11_ok nmX11 hown hK hP hD hS 0 rfl rfl 2 (by decide) (ow (k := 6) rfl) (fun _ h9 => h9) rfl (by decide +kernel) rfl rfl (Nat.le_of_ble_eq_true rfl) dX11_init_20 (fun H locs hP hD hS => ?_)
  have hP : va_P (dC, dI) vwP [(h0, .inr (11, [.ref q_1, .int 0, .int (-1), .null, .null, .null, .int 0, .null, .int 0, .null, .null, .null, .null, .null, .null, .null, .null])), (q_1, .inl (cA_2, 8192, .inl (fun _ => 0)))] H := hP
  have hD : va_D A [(h0, .inr (11, [.ref q_1, .int 0, .int (-1), .null, .null, .null, .int 0, .null, .int 0, .null, .null, .null, .null, .null, .null, .null, .null])), (q_1, .inl (cA_2, 8192, .inl (fun _ => 0)))] := hD
  refine lv_aload_n hx hb dX11_init_23 rfl (lv_at hl 0 rfl) ?_
  refine va_new (ci := 0) (fs := [.int 0, .int 0, .int 0, .int 0, .null, .null, .null, .null, .null, .null, .null, .null, .null, .null, .null, .null, .null, .null, .null]) (C := RX0) (T := TX0) (N := 19) hx hb hts mem_X11_init_1 tyX0 tyX0_ok hown (ow (k := 7) rfl) (ow (k := 8) rfl) (ow (k := 9) rfl) hK hP hD hS hA rfl (df_X0) (Nat.le_of_ble_eq_true rfl) (Nat.le_of_ble_eq_true rfl) dX11_init_24 (fun q_3 H hP hD hS => ?_)
  have hP : va_P (dC, dI) vwP [(h0, .inr (11, [.ref q_1, .int 0, .int (-1), .null, .null, .null, .int 0, .null, .int 0, .null, .null, .null, .null, .null, .null, .null, .null])), (q_1, .inl (cA_2, 8192, .inl (fun _ => 0))), (q_3, .inr (0, [.int 0, .int 0, .int 0, .int 0, .null, .null, .null, .null, .null, .null, .null, .null, .null, .null, .null, .null, .null, .null, .null]))] H := hP
  have hD : va_D A [(h0, .inr (11, [.ref q_1, .int 0, .int (-1), .null, .null, .null, .int 0, .null, .int 0, .null, .null, .null, .null, .null, .null, .null, .null])), (q_1, .inl (cA_2, 8192, .inl (fun _ => 0))), (q_3, .inr (0, [.int 0, .int 0, .int 0, .int 0, .null, .null, .null, .null, .null, .null, .null, .null, .null, .null, .null, .null, .null, .null, .null]))] := hD
  refine W.widen (k := 2) (n := 8211) (Nat.le_of_ble_eq_true rfl) (Nat.le_of_ble_eq_true rfl) ?_
  refine lv_dup hx hb dX11_init_27 rfl ?_
  have hPc := hP.sub (ws' := [(q_3, .inr (0, [.int 0, .int 0, .int 0, .int 0, .null, .null, .null, .null, .null, .null, .null, .null, .null, .null, .null, .null, .null, .null, .null]))]) [2] rfl
  have hDc := hD.sub (ws' := [(q_3, .inr (0, [.int 0, .int 0, .int 0, .int 0, .null, .null, .null, .null, .null, .null, .null, .null, .null, .null, .null, .null, .null, .null, .null]))]) [2] (by decide) rfl
  have hKc := hK.sub (tys' := []) [] rfl
  have hFc := va_free (wc := [(q_3, .inr (0, [.int 0, .int 0, .int 0, .int 0, .null, .null, .null, .null, .null, .null, .null, .null, .null, .null, .null, .null, .null, .null, .null]))]) hD hS hA [2] rfl
  refine va_callv (va_runIN (As := []) (rest := [.ref q_3, .ref h0]) ⟨hx, hb, hml, hown, hts⟩ (c_X0_init l dC dI q_3 H.size) ⟨va_cnB 0 hts (goodIn_sub mem_X11_init_2 gw_X0_init) rfl rfl rfl hp0 (ow (k := 9) rfl) (by decide +kernel) ⟨(Nat.le_of_ble_eq_true rfl), (Nat.le_of_ble_eq_true rfl)⟩, rfl, (ow (k := 10) rfl)⟩ ⟨fun a U g mk q => by obtain ⟨q0, q1, qP, qK, qD⟩ := q; exact ⟨q0, q1, qP, va_K.moved (u := U) (U := U.calling g mk a) (Vm.Alike.refl U.vm) qK, qD⟩, fun U hU hW => ⟨rfl, by rw [hU], by rw [hU]; exact hPc, va_K.moved hW.alike hKc, hDc.weaken (fun _ _ _ _ => trivial)⟩⟩ rfl rfl hl.1 rfl (lv_room (Nat.le_of_ble_eq_true rfl)) dX11_init_28 ⟨(Nat.le_of_ble_eq_true rfl), (Nat.le_of_ble_eq_true rfl)⟩) hS (fun q _ h => hFc q h) hFc (fun  u t H1 locs ht hvm hw hB hz1 hk1 hS => ?_)
  obtain ⟨q_4, q_5, q_6, q_7, q_8, q_9, q_10, q_11, q_12, q_13, q_14, q_15, q_16, q_17, q_18, cA_19, cA_20, hP1, hK1, hD1⟩ := hB
  rw [ht] at hP1
  have hK1 := va_K.moved hvm.symm hK1
  obtain ⟨hP, hD⟩ := va_join (wr := [(h0, .inr (11, [.ref q_1, .int 0, .int (-1), .null, .null, .null, .int 0, .null, .int 0, .null, .null, .null, .null, .null, .null, .null, .null])), (q_1, .inl (cA_2, 8192, .inl (fun _ => 0)))]) (w1 := [(q_3, .inr (0, [.int 0, .int 0, .int 0, .int 0, .ref q_4, .ref q_5, .ref q_6, .ref q_7, .ref q_8, .ref q_9, .ref q_10, .ref q_11, .ref q_12, .ref q_13, .ref q_14, .ref q_15, .ref q_16, .ref q_17, .ref q_18])), (q_4, .inl (cA_19, 301, .inl (fun _ => 0))), (q_15, .inl (cA_20, 301, .inl (fun _ => 0)))]) hP hD [2] [0, 1] rfl rfl (by decide) (by decide) hk1 hFc hP1 hD1
  have hK := (hK.sub (tys' := [(cA_2, .byte)]) [0] rfl).app hK1
  generalize H1 = H at hP hS ⊢
  have hP : va_P (dC, dI) vwP [(h0, .inr (11, [.ref q_1, .int 0, .int (-1), .null, .null, .null, .int 0, .null, .int 0, .null, .null, .null, .null, .null, .null, .null, .null])), (q_1, .inl (cA_2, 8192, .inl (fun _ => 0))), (q_3, .inr (0, [.int 0, .int 0, .int 0, .int 0, .ref q_4, .ref q_5, .ref q_6, .ref q_7, .ref q_8, .ref q_9, .ref q_10, .ref q_11, .ref q_12, .ref q_13, .ref q_14, .ref q_15, .ref q_16, .ref q_17, .ref q_18])), (q_4, .inl (cA_19, 301, .inl (fun _ => 0))), (q_15, .inl (cA_20, 301, .inl (fun _ => 0)))] H := hP
  have hD : va_D A [(h0, .inr (11, [.ref q_1, .int 0, .int (-1), .null, .null, .null, .int 0, .null, .int 0, .null, .null, .null, .null, .null, .null, .null, .null])), (q_1, .inl (cA_2, 8192, .inl (fun _ => 0))), (q_3, .inr (0, [.int 0, .int 0, .int 0, .int 0, .ref q_4, .ref q_5, .ref q_6, .ref q_7, .ref q_8, .ref q_9, .ref q_10, .ref q_11, .ref q_12, .ref q_13, .ref q_14, .ref q_15, .ref q_16, .ref q_17, .ref q_18])), (q_4, .inl (cA_19, 301, .inl (fun _ => 0))), (q_15, .inl (cA_20, 301, .inl (fun _ => 0)))] := hD
  have hK : va_K (dC, dI) vwP [(cA_2, .byte), (cA_19, .int), (cA_20, .int)] s := hK
  refine W.widen (k := 17) (n := 25010) (Nat.le_of_ble_eq_true rfl) (Nat.le_of_ble_eq_true rfl) ?_
  refine va_put (D := (dC, dI)) (ci := 11) (v := .ref q_3) (ty := .object "SsaForge$Code") (C := RX11) (T := TX11) (N := 17) hx hb hts mem_X11_init_0 tyX11 tyX11_ok nmX11 hown hK hP hD hS 0 rfl rfl 3 (by decide) (ow (k := 11) rfl) (fun _ h9 => h9) rfl (by decide +kernel) rfl rfl (Nat.le_of_ble_eq_true rfl) dX11_init_31 (fun H locs hP hD hS => ?_)
  have hP : va_P (dC, dI) vwP [(h0, .inr (11, [.ref q_1, .int 0, .int (-1), .ref q_3, .null, .null, .int 0, .null, .int 0, .null, .null, .null, .null, .null, .null, .null, .null])), (q_1, .inl (cA_2, 8192, .inl (fun _ => 0))), (q_3, .inr (0, [.int 0, .int 0, .int 0, .int 0, .ref q_4, .ref q_5, .ref q_6, .ref q_7, .ref q_8, .ref q_9, .ref q_10, .ref q_11, .ref q_12, .ref q_13, .ref q_14, .ref q_15, .ref q_16, .ref q_17, .ref q_18])), (q_4, .inl (cA_19, 301, .inl (fun _ => 0))), (q_15, .inl (cA_20, 301, .inl (fun _ => 0)))] H := hP
  have hD : va_D A [(h0, .inr (11, [.ref q_1, .int 0, .int (-1), .ref q_3, .null, .null, .int 0, .null, .int 0, .null, .null, .null, .null, .null, .null, .null, .null])), (q_1, .inl (cA_2, 8192, .inl (fun _ => 0))), (q_3, .inr (0, [.int 0, .int 0, .int 0, .int 0, .ref q_4, .ref q_5, .ref q_6, .ref q_7, .ref q_8, .ref q_9, .ref q_10, .ref q_11, .ref q_12, .ref q_13, .ref q_14, .ref q_15, .ref q_16, .ref q_17, .ref q_18])), (q_4, .inl (cA_19, 301, .inl (fun _ => 0))), (q_15, .inl (cA_20, 301, .inl (fun _ => 0)))] := hD
  refine lv_aload_n hx hb dX11_init_34 rfl (lv_at hl 0 rfl) ?_
  refine va_new (ci := 0) (fs := [.int 0, .int 0, .int 0, .int 0, .null, .null, .null, .null, .null, .null, .null, .null, .null, .null, .null, .null, .null, .null, .null]) (C := RX0) (T := TX0) (N := 19) hx hb hts mem_X11_init_1 tyX0 tyX0_ok hown (ow (k := 7) rfl) (ow (k := 8) rfl) (ow (k := 9) rfl) hK hP hD hS hA rfl (df_X0) (Nat.le_of_ble_eq_true rfl) (Nat.le_of_ble_eq_true rfl) dX11_init_35 (fun q_21 H hP hD hS => ?_)
  have hP : va_P (dC, dI) vwP [(h0, .inr (11, [.ref q_1, .int 0, .int (-1), .ref q_3, .null, .null, .int 0, .null, .int 0, .null, .null, .null, .null, .null, .null, .null, .null])), (q_1, .inl (cA_2, 8192, .inl (fun _ => 0))), (q_3, .inr (0, [.int 0, .int 0, .int 0, .int 0, .ref q_4, .ref q_5, .ref q_6, .ref q_7, .ref q_8, .ref q_9, .ref q_10, .ref q_11, .ref q_12, .ref q_13, .ref q_14, .ref q_15, .ref q_16, .ref q_17, .ref q_18])), (q_4, .inl (cA_19, 301, .inl (fun _ => 0))), (q_15, .inl (cA_20, 301, .inl (fun _ => 0))), (q_21, .inr (0, [.int 0, .int 0, .int 0, .int 0, .null, .null, .null, .null, .null, .null, .null, .null, .null, .null, .null, .null, .null, .null, .null]))] H := hP
  have hD : va_D A [(h0, .inr (11, [.ref q_1, .int 0, .int (-1), .ref q_3, .null, .null, .int 0, .null, .int 0, .null, .null, .null, .null, .null, .null, .null, .null])), (q_1, .inl (cA_2, 8192, .inl (fun _ => 0))), (q_3, .inr (0, [.int 0, .int 0, .int 0, .int 0, .ref q_4, .ref q_5, .ref q_6, .ref q_7, .ref q_8, .ref q_9, .ref q_10, .ref q_11, .ref q_12, .ref q_13, .ref q_14, .ref q_15, .ref q_16, .ref q_17, .ref q_18])), (q_4, .inl (cA_19, 301, .inl (fun _ => 0))), (q_15, .inl (cA_20, 301, .inl (fun _ => 0))), (q_21, .inr (0, [.int 0, .int 0, .int 0, .int 0, .null, .null, .null, .null, .null, .null, .null, .null, .null, .null, .null, .null, .null, .null, .null]))] := hD
  refine W.widen (k := 18) (n := 25029) (Nat.le_of_ble_eq_true rfl) (Nat.le_of_ble_eq_true rfl) ?_
  refine lv_dup hx hb dX11_init_38 rfl ?_
  have hPc := hP.sub (ws' := [(q_21, .inr (0, [.int 0, .int 0, .int 0, .int 0, .null, .null, .null, .null, .null, .null, .null, .null, .null, .null, .null, .null, .null, .null, .null]))]) [5] rfl
  have hDc := hD.sub (ws' := [(q_21, .inr (0, [.int 0, .int 0, .int 0, .int 0, .null, .null, .null, .null, .null, .null, .null, .null, .null, .null, .null, .null, .null, .null, .null]))]) [5] (by decide) rfl
  have hKc := hK.sub (tys' := []) [] rfl
  have hFc := va_free (wc := [(q_21, .inr (0, [.int 0, .int 0, .int 0, .int 0, .null, .null, .null, .null, .null, .null, .null, .null, .null, .null, .null, .null, .null, .null, .null]))]) hD hS hA [5] rfl
  refine va_callv (va_runIN (As := []) (rest := [.ref q_21, .ref h0]) ⟨hx, hb, hml, hown, hts⟩ (c_X0_init l dC dI q_21 H.size) ⟨va_cnB 0 hts (goodIn_sub mem_X11_init_2 gw_X0_init) rfl rfl rfl hp0 (ow (k := 9) rfl) (by decide +kernel) ⟨(Nat.le_of_ble_eq_true rfl), (Nat.le_of_ble_eq_true rfl)⟩, rfl, (ow (k := 10) rfl)⟩ ⟨fun a U g mk q => by obtain ⟨q0, q1, qP, qK, qD⟩ := q; exact ⟨q0, q1, qP, va_K.moved (u := U) (U := U.calling g mk a) (Vm.Alike.refl U.vm) qK, qD⟩, fun U hU hW => ⟨rfl, by rw [hU], by rw [hU]; exact hPc, va_K.moved hW.alike hKc, hDc.weaken (fun _ _ _ _ => trivial)⟩⟩ rfl rfl hl.1 rfl (lv_room (Nat.le_of_ble_eq_true rfl)) dX11_init_39 ⟨(Nat.le_of_ble_eq_true rfl), (Nat.le_of_ble_eq_true rfl)⟩) hS (fun q _ h => hFc q h) hFc (fun  u t H1 locs ht hvm hw hB hz1 hk1 hS => ?_)
  obtain ⟨q_22, q_23, q_24, q_25, q_26, q_27, q_28, q_29, q_30, q_31, q_32, q_33, q_34, q_35, q_36, cA_37, cA_38, hP1, hK1, hD1⟩ := hB
  rw [ht] at hP1
  have hK1 := va_K.moved hvm.symm hK1
  obtain ⟨hP, hD⟩ := va_join (wr := [(h0, .inr (11, [.ref q_1, .int 0, .int (-1), .ref q_3, .null, .null, .int 0, .null, .int 0, .null, .null, .null, .null, .null, .null, .null, .null])), (q_1, .inl (cA_2, 8192, .inl (fun _ => 0))), (q_3, .inr (0, [.int 0, .int 0, .int 0, .int 0, .ref q_4, .ref q_5, .ref q_6, .ref q_7, .ref q_8, .ref q_9, .ref q_10, .ref q_11, .ref q_12, .ref q_13, .ref q_14, .ref q_15, .ref q_16, .ref q_17, .ref q_18])), (q_4, .inl (cA_19, 301, .inl (fun _ => 0))), (q_15, .inl (cA_20, 301, .inl (fun _ => 0)))]) (w1 := [(q_21, .inr (0, [.int 0, .int 0, .int 0, .int 0, .ref q_22, .ref q_23, .ref q_24, .ref q_25, .ref q_26, .ref q_27, .ref q_28, .ref q_29, .ref q_30, .ref q_31, .ref q_32, .ref q_33, .ref q_34, .ref q_35, .ref q_36])), (q_22, .inl (cA_37, 301, .inl (fun _ => 0))), (q_33, .inl (cA_38, 301, .inl (fun _ => 0)))]) hP hD [5] [0, 1, 2, 3, 4] rfl rfl (by decide) (by decide) hk1 hFc hP1 hD1
  have hK := (hK.sub (tys' := [(cA_2, .byte), (cA_19, .int), (cA_20, .int)]) [0, 1, 2] rfl).app hK1
  generalize H1 = H at hP hS ⊢
  have hP : va_P (dC, dI) vwP [(h0, .inr (11, [.ref q_1, .int 0, .int (-1), .ref q_3, .null, .null, .int 0, .null, .int 0, .null, .null, .null, .null, .null, .null, .null, .null])), (q_1, .inl (cA_2, 8192, .inl (fun _ => 0))), (q_3, .inr (0, [.int 0, .int 0, .int 0, .int 0, .ref q_4, .ref q_5, .ref q_6, .ref q_7, .ref q_8, .ref q_9, .ref q_10, .ref q_11, .ref q_12, .ref q_13, .ref q_14, .ref q_15, .ref q_16, .ref q_17, .ref q_18])), (q_4, .inl (cA_19, 301, .inl (fun _ => 0))), (q_15, .inl (cA_20, 301, .inl (fun _ => 0))), (q_21, .inr (0, [.int 0, .int 0, .int 0, .int 0, .ref q_22, .ref q_23, .ref q_24, .ref q_25, .ref q_26, .ref q_27, .ref q_28, .ref q_29, .ref q_30, .ref q_31, .ref q_32, .ref q_33, .ref q_34, .ref q_35, .ref q_36])), (q_22, .inl (cA_37, 301, .inl (fun _ => 0))), (q_33, .inl (cA_38, 301, .inl (fun _ => 0)))] H := hP
  have hD : va_D A [(h0, .inr (11, [.ref q_1, .int 0, .int (-1), .ref q_3, .null, .null, .int 0, .null, .int 0, .null, .null, .null, .null, .null, .null, .null, .null])), (q_1, .inl (cA_2, 8192, .inl (fun _ => 0))), (q_3, .inr (0, [.int 0, .int 0, .int 0, .int 0, .ref q_4, .ref q_5, .ref q_6, .ref q_7, .ref q_8, .ref q_9, .ref q_10, .ref q_11, .ref q_12, .ref q_13, .ref q_14, .ref q_15, .ref q_16, .ref q_17, .ref q_18])), (q_4, .inl (cA_19, 301, .inl (fun _ => 0))), (q_15, .inl (cA_20, 301, .inl (fun _ => 0))), (q_21, .inr (0, [.int 0, .int 0, .int 0, .int 0, .ref q_22, .ref q_23, .ref q_24, .ref q_25, .ref q_26, .ref q_27, .ref q_28, .ref q_29, .ref q_30, .ref q_31, .ref q_32, .ref q_33, .ref q_34, .ref q_35, .ref q_36])), (q_22, .inl (cA_37, 301, .inl (fun _ => 0))), (q_33, .inl (cA_38, 301, .inl (fun _ => 0)))] := hD
  have hK : va_K (dC, dI) vwP [(cA_2, .byte), (cA_19, .int), (cA_20, .int), (cA_37, .int), (cA_38, .int)] s := hK
  refine W.widen (k := 33) (n := 41828) (Nat.le_of_ble_eq_true rfl) (Nat.le_of_ble_eq_true rfl) ?_
  refine va_put (D := (dC, dI)) (ci := 11) (v := .ref q_21) (ty := .object "SsaForge$Code") (C := RX11) (T := TX11) (N := 17) hx hb hts mem_X11_init_0 tyX11 tyX11_ok nmX11 hown hK hP hD hS 0 rfl rfl 4 (by decide) (ow (k := 12) rfl) (fun _ h9 => h9) rfl (by decide +kernel) rfl rfl (Nat.le_of_ble_eq_true rfl) dX11_init_42 (fun H locs hP hD hS => ?_)
  have hP : va_P (dC, dI) vwP [(h0, .inr (11, [.ref q_1, .int 0, .int (-1), .ref q_3, .ref q_21, .null, .int 0, .null, .int 0, .null, .null, .null, .null, .null, .null, .null, .null])), (q_1, .inl (cA_2, 8192, .inl (fun _ => 0))), (q_3, .inr (0, [.int 0, .int 0, .int 0, .int 0, .ref q_4, .ref q_5, .ref q_6, .ref q_7, .ref q_8, .ref q_9, .ref q_10, .ref q_11, .ref q_12, .ref q_13, .ref q_14, .ref q_15, .ref q_16, .ref q_17, .ref q_18])), (q_4, .inl (cA_19, 301, .inl (fun _ => 0))), (q_15, .inl (cA_20, 301, .inl (fun _ => 0))), (q_21, .inr (0, [.int 0, .int 0, .int 0, .int 0, .ref q_22, .ref q_23, .ref q_24, .ref q_25, .ref q_26, .ref q_27, .ref q_28, .ref q_29, .ref q_30, .ref q_31, .ref q_32, .ref q_33, .ref q_34, .ref q_35, .ref q_36])), (q_22, .inl (cA_37, 301, .inl (fun _ => 0))), (q_33, .inl (cA_38, 301, .inl (fun _ => 0)))] H := hP
  have hD : va_D A [(h0, .inr (11, [.ref q_1, .int 0, .int (-1), .ref q_3, .ref q_21, .null, .int 0, .null, .int 0, .null, .null, .null, .null, .null, .null, .null, .null])), (q_1, .inl (cA_2, 8192, .inl (fun _ => 0))), (q_3, .inr (0, [.int 0, .int 0, .int 0, .int 0, .ref q_4, .ref q_5, .ref q_6, .ref q_7, .ref q_8, .ref q_9, .ref q_10, .ref q_11, .ref q_12, .ref q_13, .ref q_14, .ref q_15, .ref q_16, .ref q_17, .ref q_18])), (q_4, .inl (cA_19, 301, .inl (fun _ => 0))), (q_15, .inl (cA_20, 301, .inl (fun _ => 0))), (q_21, .inr (0, [.int 0, .int 0, .int 0, .int 0, .ref q_22, .ref q_23, .ref q_24, .ref q_25, .ref q_26, .ref q_27, .ref q_28, .ref q_29, .ref q_30, .ref q_31, .ref q_32, .ref q_33, .ref q_34, .ref q_35, .ref q_36])), (q_22, .inl (cA_37, 301, .inl (fun _ => 0))), (q_33, .inl (cA_38, 301, .inl (fun _ => 0)))] := hD
  have hP := hP.sub (ws' := [(h0, .inr (11, [.ref q_1, .int 0, .int (-1), .ref q_3, .ref q_21, .null, .int 0, .null, .int 0, .null, .null, .null, .null, .null, .null, .null, .null])), (q_1, .inl (cA_2, 8192, .inl (fun _ => 0))), (q_3, .inr (0, [.int 0, .int 0, .int 0, .int 0, .ref q_4, .ref q_5, .ref q_6, .ref q_7, .ref q_8, .ref q_9, .ref q_10, .ref q_11, .ref q_12, .ref q_13, .ref q_14, .ref q_15, .ref q_16, .ref q_17, .ref q_18])), (q_4, .inl (cA_19, 301, .inl (fun _ => 0))), (q_15, .inl (cA_20, 301, .inl (fun _ => 0)))]) [0, 1, 2, 3, 4] rfl
  have hD := hD.sub (ws' := [(h0, .inr (11, [.ref q_1, .int 0, .int (-1), .ref q_3, .ref q_21, .null, .int 0, .null, .int 0, .null, .null, .null, .null, .null, .null, .null, .null])), (q_1, .inl (cA_2, 8192, .inl (fun _ => 0))), (q_3, .inr (0, [.int 0, .int 0, .int 0, .int 0, .ref q_4, .ref q_5, .ref q_6, .ref q_7, .ref q_8, .ref q_9, .ref q_10, .ref q_11, .ref q_12, .ref q_13, .ref q_14, .ref q_15, .ref q_16, .ref q_17, .ref q_18])), (q_4, .inl (cA_19, 301, .inl (fun _ => 0))), (q_15, .inl (cA_20, 301, .inl (fun _ => 0)))]) [0, 1, 2, 3, 4] (by decide) rfl
  have hK := hK.sub (tys' := [(cA_2, .byte), (cA_19, .int), (cA_20, .int)]) [0, 1, 2] rfl
  refine lv_aload_n hx hb dX11_init_45 rfl (lv_at hl 0 rfl) ?_
  refine va_new (ci := 2) (fs := [.int 0, .null, .null, .null, .null, .null, .null, .null, .null, .null, .null, .null, .null]) (C := RX2) (T := TX2) (N := 13) hx hb hts mem_X11_init_3 tyX2 tyX2_ok hown (ow (k := 13) rfl) (ow (k := 14) rfl) (ow (k := 15) rfl) hK hP hD hS hA rfl (df_X2) (Nat.le_of_ble_eq_true rfl) (Nat.le_of_ble_eq_true rfl) dX11_init_46 (fun q_39 H hP hD hS => ?_)
  have hP : va_P (dC, dI) vwP [(h0, .inr (11, [.ref q_1, .int 0, .int (-1), .ref q_3, .ref q_21, .null, .int 0, .null, .int 0, .null, .null, .null, .null, .null, .null, .null, .null])), (q_1, .inl (cA_2, 8192, .inl (fun _ => 0))), (q_3, .inr (0, [.int 0, .int 0, .int 0, .int 0, .ref q_4, .ref q_5, .ref q_6, .ref q_7, .ref q_8, .ref q_9, .ref q_10, .ref q_11, .ref q_12, .ref q_13, .ref q_14, .ref q_15, .ref q_16, .ref q_17, .ref q_18])), (q_4, .inl (cA_19, 301, .inl (fun _ => 0))), (q_15, .inl (cA_20, 301, .inl (fun _ => 0))), (q_39, .inr (2, [.int 0, .null, .null, .null, .null, .null, .null, .null, .null, .null, .null, .null, .null]))] H := hP
  have hD : va_D A [(h0, .inr (11, [.ref q_1, .int 0, .int (-1), .ref q_3, .ref q_21, .null, .int 0, .null, .int 0, .null, .null, .null, .null, .null, .null, .null, .null])), (q_1, .inl (cA_2, 8192, .inl (fun _ => 0))), (q_3, .inr (0, [.int 0, .int 0, .int 0, .int 0, .ref q_4, .ref q_5, .ref q_6, .ref q_7, .ref q_8, .ref q_9, .ref q_10, .ref q_11, .ref q_12, .ref q_13, .ref q_14, .ref q_15, .ref q_16, .ref q_17, .ref q_18])), (q_4, .inl (cA_19, 301, .inl (fun _ => 0))), (q_15, .inl (cA_20, 301, .inl (fun _ => 0))), (q_39, .inr (2, [.int 0, .null, .null, .null, .null, .null, .null, .null, .null, .null, .null, .null, .null]))] := hD
  refine W.widen (k := 34) (n := 41841) (Nat.le_of_ble_eq_true rfl) (Nat.le_of_ble_eq_true rfl) ?_
  refine lv_dup hx hb dX11_init_49 rfl ?_
  have hPc := hP.sub (ws' := [(q_39, .inr (2, [.int 0, .null, .null, .null, .null, .null, .null, .null, .null, .null, .null, .null, .null]))]) [5] rfl
  have hDc := hD.sub (ws' := [(q_39, .inr (2, [.int 0, .null, .null, .null, .null, .null, .null, .null, .null, .null, .null, .null, .null]))]) [5] (by decide) rfl
  have hKc := hK.sub (tys' := []) [] rfl
  have hFc := va_free (wc := [(q_39, .inr (2, [.int 0, .null, .null, .null, .null, .null, .null, .null, .null, .null, .null, .null, .null]))]) hD hS hA [5] rfl
  refine va_callv (va_runIN (As := []) (rest := [.ref q_39, .ref h0]) ⟨hx, hb, hml, hown, hts⟩ (c_X2_init l dC dI q_39 H.size) ⟨va_cnB 0 hts (goodIn_sub mem_X11_init_4 gw_X2_init) rfl rfl rfl hp1 (ow (k := 15) rfl) (by decide +kernel) ⟨(Nat.le_of_ble_eq_true rfl), (Nat.le_of_ble_eq_true rfl)⟩, rfl, (ow (k := 16) rfl)⟩ ⟨fun a U g mk q => by obtain ⟨q0, q1, qP, qK, qD⟩ := q; exact ⟨q0, q1, qP, va_K.moved (u := U) (U := U.calling g mk a) (Vm.Alike.refl U.vm) qK, qD⟩, fun U hU hW => ⟨rfl, by rw [hU], by rw [hU]; exact hPc, va_K.moved hW.alike hKc, hDc.weaken (fun _ _ _ _ => trivial)⟩⟩ rfl rfl hl.1 rfl (lv_room (Nat.le_of_ble_eq_true rfl)) dX11_init_50 ⟨(Nat.le_of_ble_eq_true rfl), (Nat.le_of_ble_eq_true rfl)⟩) hS (fun q _ h => hFc q h) hFc (fun  u t H1 locs ht hvm hw hB hz1 hk1 hS => ?_)
  obtain ⟨q_40, q_41, q_42, q_43, q_44, q_45, q_46, q_47, q_48, q_49, q_50, q_51, hP1, hK1, hD1⟩ := hB
  rw [ht] at hP1
  have hK1 := va_K.moved hvm.symm hK1
  obtain ⟨hP, hD⟩ := va_join (wr := [(h0, .inr (11, [.ref q_1, .int 0, .int (-1), .ref q_3, .ref q_21, .null, .int 0, .null, .int 0, .null, .null, .null, .null, .null, .null, .null, .null])), (q_1, .inl (cA_2, 8192, .inl (fun _ => 0))), (q_3, .inr (0, [.int 0, .int 0, .int 0, .int 0, .ref q_4, .ref q_5, .ref q_6, .ref q_7, .ref q_8, .ref q_9, .ref q_10, .ref q_11, .ref q_12, .ref q_13, .ref q_14, .ref q_15, .ref q_16, .ref q_17, .ref q_18])), (q_4, .inl (cA_19, 301, .inl (fun _ => 0))), (q_15, .inl (cA_20, 301, .inl (fun _ => 0)))]) (w1 := [(q_39, .inr (2, [.int 0, .ref q_40, .ref q_41, .ref q_42, .ref q_43, .ref q_44, .ref q_45, .ref q_46, .ref q_47, .ref q_48, .ref q_49, .ref q_50, .ref q_51]))]) hP hD [5] [0, 1, 2, 3, 4] rfl rfl (by decide) (by decide) hk1 hFc hP1 hD1
  have hK := (hK.sub (tys' := [(cA_2, .byte), (cA_19, .int), (cA_20, .int)]) [0, 1, 2] rfl).app hK1
  generalize H1 = H at hP hS ⊢
  have hP : va_P (dC, dI) vwP [(h0, .inr (11, [.ref q_1, .int 0, .int (-1), .ref q_3, .ref q_21, .null, .int 0, .null, .int 0, .null, .null, .null, .null, .null, .null, .null, .null])), (q_1, .inl (cA_2, 8192, .inl (fun _ => 0))), (q_3, .inr (0, [.int 0, .int 0, .int 0, .int 0, .ref q_4, .ref q_5, .ref q_6, .ref q_7, .ref q_8, .ref q_9, .ref q_10, .ref q_11, .ref q_12, .ref q_13, .ref q_14, .ref q_15, .ref q_16, .ref q_17, .ref q_18])), (q_4, .inl (cA_19, 301, .inl (fun _ => 0))), (q_15, .inl (cA_20, 301, .inl (fun _ => 0))), (q_39, .inr (2, [.int 0, .ref q_40, .ref q_41, .ref q_42, .ref q_43, .ref q_44, .ref q_45, .ref q_46, .ref q_47, .ref q_48, .ref q_49, .ref q_50, .ref q_51]))] H := hP
  have hD : va_D A [(h0, .inr (11, [.ref q_1, .int 0, .int (-1), .ref q_3, .ref q_21, .null, .int 0, .null, .int 0, .null, .null, .null, .null, .null, .null, .null, .null])), (q_1, .inl (cA_2, 8192, .inl (fun _ => 0))), (q_3, .inr (0, [.int 0, .int 0, .int 0, .int 0, .ref q_4, .ref q_5, .ref q_6, .ref q_7, .ref q_8, .ref q_9, .ref q_10, .ref q_11, .ref q_12, .ref q_13, .ref q_14, .ref q_15, .ref q_16, .ref q_17, .ref q_18])), (q_4, .inl (cA_19, 301, .inl (fun _ => 0))), (q_15, .inl (cA_20, 301, .inl (fun _ => 0))), (q_39, .inr (2, [.int 0, .ref q_40, .ref q_41, .ref q_42, .ref q_43, .ref q_44, .ref q_45, .ref q_46, .ref q_47, .ref q_48, .ref q_49, .ref q_50, .ref q_51]))] := hD
  have hK : va_K (dC, dI) vwP [(cA_2, .byte), (cA_19, .int), (cA_20, .int)] s := hK
  refine W.widen (k := 46) (n := 46941) (Nat.le_of_ble_eq_true rfl) (Nat.le_of_ble_eq_true rfl) ?_
  refine va_putF (D := (dC, dI)) (ci := 11) (v := .ref q_39) (ty := .object "SsaForge$Flow") (C := RX11) (T := TX11) (N := 17) hx hb hts mem_X11_init_0 tyX11 tyX11_ok nmX11 hown hK hP hD hS 0 rfl rfl 5 (by decide) (ow (k := 17) rfl) (fun _ h9 => h9) rfl hin rfl (by decide +kernel) rfl rfl (Nat.le_of_ble_eq_true rfl) dX11_init_53 (fun H locs hP hD hS => ?_)
  have hP : va_P (dC, dI) vwP [(h0, .inr (11, [.ref q_1, .int 0, .int (-1), .ref q_3, .ref q_21, .ref q_39, .int 0, .null, .int 0, .null, .null, .null, .null, .null, .null, .null, .null])), (q_1, .inl (cA_2, 8192, .inl (fun _ => 0))), (q_3, .inr (0, [.int 0, .int 0, .int 0, .int 0, .ref q_4, .ref q_5, .ref q_6, .ref q_7, .ref q_8, .ref q_9, .ref q_10, .ref q_11, .ref q_12, .ref q_13, .ref q_14, .ref q_15, .ref q_16, .ref q_17, .ref q_18])), (q_4, .inl (cA_19, 301, .inl (fun _ => 0))), (q_15, .inl (cA_20, 301, .inl (fun _ => 0))), (q_39, .inr (2, [.int 0, .ref q_40, .ref q_41, .ref q_42, .ref q_43, .ref q_44, .ref q_45, .ref q_46, .ref q_47, .ref q_48, .ref q_49, .ref q_50, .ref q_51]))] H := hP
  have hD : va_D A [(h0, .inr (11, [.ref q_1, .int 0, .int (-1), .ref q_3, .ref q_21, .ref q_39, .int 0, .null, .int 0, .null, .null, .null, .null, .null, .null, .null, .null])), (q_1, .inl (cA_2, 8192, .inl (fun _ => 0))), (q_3, .inr (0, [.int 0, .int 0, .int 0, .int 0, .ref q_4, .ref q_5, .ref q_6, .ref q_7, .ref q_8, .ref q_9, .ref q_10, .ref q_11, .ref q_12, .ref q_13, .ref q_14, .ref q_15, .ref q_16, .ref q_17, .ref q_18])), (q_4, .inl (cA_19, 301, .inl (fun _ => 0))), (q_15, .inl (cA_20, 301, .inl (fun _ => 0))), (q_39, .inr (2, [.int 0, .ref q_40, .ref q_41, .ref q_42, .ref q_43, .ref q_44, .ref q_45, .ref q_46, .ref q_47, .ref q_48, .ref q_49, .ref q_50, .ref q_51]))] := hD
  have hP := hP.sub (ws' := [(h0, .inr (11, [.ref q_1, .int 0, .int (-1), .ref q_3, .ref q_21, .ref q_39, .int 0, .null, .int 0, .null, .null, .null, .null, .null, .null, .null, .null])), (q_1, .inl (cA_2, 8192, .inl (fun _ => 0))), (q_3, .inr (0, [.int 0, .int 0, .int 0, .int 0, .ref q_4, .ref q_5, .ref q_6, .ref q_7, .ref q_8, .ref q_9, .ref q_10, .ref q_11, .ref q_12, .ref q_13, .ref q_14, .ref q_15, .ref q_16, .ref q_17, .ref q_18])), (q_4, .inl (cA_19, 301, .inl (fun _ => 0))), (q_15, .inl (cA_20, 301, .inl (fun _ => 0)))]) [0, 1, 2, 3, 4] rfl
  have hD := hD.sub (ws' := [(h0, .inr (11, [.ref q_1, .int 0, .int (-1), .ref q_3, .ref q_21, .ref q_39, .int 0, .null, .int 0, .null, .null, .null, .null, .null, .null, .null, .null])), (q_1, .inl (cA_2, 8192, .inl (fun _ => 0))), (q_3, .inr (0, [.int 0, .int 0, .int 0, .int 0, .ref q_4, .ref q_5, .ref q_6, .ref q_7, .ref q_8, .ref q_9, .ref q_10, .ref q_11, .ref q_12, .ref q_13, .ref q_14, .ref q_15, .ref q_16, .ref q_17, .ref q_18])), (q_4, .inl (cA_19, 301, .inl (fun _ => 0))), (q_15, .inl (cA_20, 301, .inl (fun _ => 0)))]) [0, 1, 2, 3, 4] (by decide) rfl
  refine lv_aload_n hx hb dX11_init_56 rfl (lv_at hl 0 rfl) ?_
  refine lv_iconst (v := 0) hx hb dX11_init_57 (by decide) ?_
  refine va_put (D := (dC, dI)) (ci := 11) (v := .int 0) (ty := .boolean) (C := RX11) (T := TX11) (N := 17) hx hb hts mem_X11_init_0 tyX11 tyX11_ok nmX11 hown hK hP hD hS 0 rfl rfl 6 (by decide) (ow (k := 18) rfl) (fun _ h9 => h9) rfl (by decide +kernel) rfl rfl (Nat.le_of_ble_eq_true rfl) dX11_init_58 (fun H locs hP hD hS => ?_)
  have hP : va_P (dC, dI) vwP [(h0, .inr (11, [.ref q_1, .int 0, .int (-1), .ref q_3, .ref q_21, .ref q_39, .int 0, .null, .int 0, .null, .null, .null, .null, .null, .null, .null, .null])), (q_1, .inl (cA_2, 8192, .inl (fun _ => 0))), (q_3, .inr (0, [.int 0, .int 0, .int 0, .int 0, .ref q_4, .ref q_5, .ref q_6, .ref q_7, .ref q_8, .ref q_9, .ref q_10, .ref q_11, .ref q_12, .ref q_13, .ref q_14, .ref q_15, .ref q_16, .ref q_17, .ref q_18])), (q_4, .inl (cA_19, 301, .inl (fun _ => 0))), (q_15, .inl (cA_20, 301, .inl (fun _ => 0)))] H := hP
  have hD : va_D A [(h0, .inr (11, [.ref q_1, .int 0, .int (-1), .ref q_3, .ref q_21, .ref q_39, .int 0, .null, .int 0, .null, .null, .null, .null, .null, .null, .null, .null])), (q_1, .inl (cA_2, 8192, .inl (fun _ => 0))), (q_3, .inr (0, [.int 0, .int 0, .int 0, .int 0, .ref q_4, .ref q_5, .ref q_6, .ref q_7, .ref q_8, .ref q_9, .ref q_10, .ref q_11, .ref q_12, .ref q_13, .ref q_14, .ref q_15, .ref q_16, .ref q_17, .ref q_18])), (q_4, .inl (cA_19, 301, .inl (fun _ => 0))), (q_15, .inl (cA_20, 301, .inl (fun _ => 0)))] := hD
  refine lv_aload_n hx hb dX11_init_61 rfl (lv_at hl 0 rfl) ?_
  refine va_new (ci := 4) (fs := [.int 0, .null, .null, .null, .null, .null, .null, .null]) (C := RX4) (T := TX4) (N := 8) hx hb hts mem_X11_init_5 tyX4 tyX4_ok hown (ow (k := 19) rfl) (ow (k := 20) rfl) (ow (k := 21) rfl) hK hP hD hS hA rfl (df_X4) (Nat.le_of_ble_eq_true rfl) (Nat.le_of_ble_eq_true rfl) dX11_init_62 (fun q_52 H hP hD hS => ?_)
  have hP : va_P (dC, dI) vwP [(h0, .inr (11, [.ref q_1, .int 0, .int (-1), .ref q_3, .ref q_21, .ref q_39, .int 0, .null, .int 0, .null, .null, .null, .null, .null, .null, .null, .null])), (q_1, .inl (cA_2, 8192, .inl (fun _ => 0))), (q_3, .inr (0, [.int 0, .int 0, .int 0, .int 0, .ref q_4, .ref q_5, .ref q_6, .ref q_7, .ref q_8, .ref q_9, .ref q_10, .ref q_11, .ref q_12, .ref q_13, .ref q_14, .ref q_15, .ref q_16, .ref q_17, .ref q_18])), (q_4, .inl (cA_19, 301, .inl (fun _ => 0))), (q_15, .inl (cA_20, 301, .inl (fun _ => 0))), (q_52, .inr (4, [.int 0, .null, .null, .null, .null, .null, .null, .null]))] H := hP
  have hD : va_D A [(h0, .inr (11, [.ref q_1, .int 0, .int (-1), .ref q_3, .ref q_21, .ref q_39, .int 0, .null, .int 0, .null, .null, .null, .null, .null, .null, .null, .null])), (q_1, .inl (cA_2, 8192, .inl (fun _ => 0))), (q_3, .inr (0, [.int 0, .int 0, .int 0, .int 0, .ref q_4, .ref q_5, .ref q_6, .ref q_7, .ref q_8, .ref q_9, .ref q_10, .ref q_11, .ref q_12, .ref q_13, .ref q_14, .ref q_15, .ref q_16, .ref q_17, .ref q_18])), (q_4, .inl (cA_19, 301, .inl (fun _ => 0))), (q_15, .inl (cA_20, 301, .inl (fun _ => 0))), (q_52, .inr (4, [.int 0, .null, .null, .null, .null, .null, .null, .null]))] := hD
  refine W.widen (k := 47) (n := 46949) (Nat.le_of_ble_eq_true rfl) (Nat.le_of_ble_eq_true rfl) ?_
  refine lv_dup hx hb dX11_init_65 rfl ?_
  have hPc := hP.sub (ws' := [(q_52, .inr (4, [.int 0, .null, .null, .null, .null, .null, .null, .null]))]) [5] rfl
  have hDc := hD.sub (ws' := [(q_52, .inr (4, [.int 0, .null, .null, .null, .null, .null, .null, .null]))]) [5] (by decide) rfl
  have hKc := hK.sub (tys' := []) [] rfl
  have hFc := va_free (wc := [(q_52, .inr (4, [.int 0, .null, .null, .null, .null, .null, .null, .null]))]) hD hS hA [5] rfl
  refine va_callv (va_runIN (As := []) (rest := [.ref q_52, .ref h0]) ⟨hx, hb, hml, hown, hts⟩ (c_X4_init l dC dI q_52 H.size) ⟨va_cnB 0 hts (goodIn_sub mem_X11_init_6 gw_X4_init) rfl rfl rfl hp2 (ow (k := 21) rfl) (by decide +kernel) ⟨(Nat.le_of_ble_eq_true rfl), (Nat.le_of_ble_eq_true rfl)⟩, rfl, (ow (k := 22) rfl)⟩ ⟨fun a U g mk q => by obtain ⟨q0, q1, qP, qK, qD⟩ := q; exact ⟨q0, q1, qP, va_K.moved (u := U) (U := U.calling g mk a) (Vm.Alike.refl U.vm) qK, qD⟩, fun U hU hW => ⟨rfl, by rw [hU], by rw [hU]; exact hPc, va_K.moved hW.alike hKc, hDc.weaken (fun _ _ _ _ => trivial)⟩⟩ rfl rfl hl.1 rfl (lv_room (Nat.le_of_ble_eq_true rfl)) dX11_init_66 ⟨(Nat.le_of_ble_eq_true rfl), (Nat.le_of_ble_eq_true rfl)⟩) hS (fun q _ h => hFc q h) hFc (fun  u t H1 locs ht hvm hw hB hz1 hk1 hS => ?_)
  obtain ⟨q_53, q_54, q_55, q_56, q_57, q_58, q_59, hP1, hK1, hD1⟩ := hB
  rw [ht] at hP1
  have hK1 := va_K.moved hvm.symm hK1
  obtain ⟨hP, hD⟩ := va_join (wr := [(h0, .inr (11, [.ref q_1, .int 0, .int (-1), .ref q_3, .ref q_21, .ref q_39, .int 0, .null, .int 0, .null, .null, .null, .null, .null, .null, .null, .null])), (q_1, .inl (cA_2, 8192, .inl (fun _ => 0))), (q_3, .inr (0, [.int 0, .int 0, .int 0, .int 0, .ref q_4, .ref q_5, .ref q_6, .ref q_7, .ref q_8, .ref q_9, .ref q_10, .ref q_11, .ref q_12, .ref q_13, .ref q_14, .ref q_15, .ref q_16, .ref q_17, .ref q_18])), (q_4, .inl (cA_19, 301, .inl (fun _ => 0))), (q_15, .inl (cA_20, 301, .inl (fun _ => 0)))]) (w1 := [(q_52, .inr (4, [.int 0, .ref q_53, .ref q_54, .ref q_55, .ref q_56, .ref q_57, .ref q_58, .ref q_59]))]) hP hD [5] [0, 1, 2, 3, 4] rfl rfl (by decide) (by decide) hk1 hFc hP1 hD1
  have hK := (hK.sub (tys' := [(cA_2, .byte), (cA_19, .int), (cA_20, .int)]) [0, 1, 2] rfl).app hK1
  generalize H1 = H at hP hS ⊢
  have hP : va_P (dC, dI) vwP [(h0, .inr (11, [.ref q_1, .int 0, .int (-1), .ref q_3, .ref q_21, .ref q_39, .int 0, .null, .int 0, .null, .null, .null, .null, .null, .null, .null, .null])), (q_1, .inl (cA_2, 8192, .inl (fun _ => 0))), (q_3, .inr (0, [.int 0, .int 0, .int 0, .int 0, .ref q_4, .ref q_5, .ref q_6, .ref q_7, .ref q_8, .ref q_9, .ref q_10, .ref q_11, .ref q_12, .ref q_13, .ref q_14, .ref q_15, .ref q_16, .ref q_17, .ref q_18])), (q_4, .inl (cA_19, 301, .inl (fun _ => 0))), (q_15, .inl (cA_20, 301, .inl (fun _ => 0))), (q_52, .inr (4, [.int 0, .ref q_53, .ref q_54, .ref q_55, .ref q_56, .ref q_57, .ref q_58, .ref q_59]))] H := hP
  have hD : va_D A [(h0, .inr (11, [.ref q_1, .int 0, .int (-1), .ref q_3, .ref q_21, .ref q_39, .int 0, .null, .int 0, .null, .null, .null, .null, .null, .null, .null, .null])), (q_1, .inl (cA_2, 8192, .inl (fun _ => 0))), (q_3, .inr (0, [.int 0, .int 0, .int 0, .int 0, .ref q_4, .ref q_5, .ref q_6, .ref q_7, .ref q_8, .ref q_9, .ref q_10, .ref q_11, .ref q_12, .ref q_13, .ref q_14, .ref q_15, .ref q_16, .ref q_17, .ref q_18])), (q_4, .inl (cA_19, 301, .inl (fun _ => 0))), (q_15, .inl (cA_20, 301, .inl (fun _ => 0))), (q_52, .inr (4, [.int 0, .ref q_53, .ref q_54, .ref q_55, .ref q_56, .ref q_57, .ref q_58, .ref q_59]))] := hD
  have hK : va_K (dC, dI) vwP [(cA_2, .byte), (cA_19, .int), (cA_20, .int)] s := hK
  refine W.widen (k := 54) (n := 75765) (Nat.le_of_ble_eq_true rfl) (Nat.le_of_ble_eq_true rfl) ?_
  refine va_putF (D := (dC, dI)) (ci := 11) (v := .ref q_52) (ty := .object "SsaForge$Live") (C := RX11) (T := TX11) (N := 17) hx hb hts mem_X11_init_0 tyX11 tyX11_ok nmX11 hown hK hP hD hS 0 rfl rfl 7 (by decide) (ow (k := 23) rfl) (fun _ h9 => h9) rfl hin rfl (by decide +kernel) rfl rfl (Nat.le_of_ble_eq_true rfl) dX11_init_69 (fun H locs hP hD hS => ?_)
  have hP : va_P (dC, dI) vwP [(h0, .inr (11, [.ref q_1, .int 0, .int (-1), .ref q_3, .ref q_21, .ref q_39, .int 0, .ref q_52, .int 0, .null, .null, .null, .null, .null, .null, .null, .null])), (q_1, .inl (cA_2, 8192, .inl (fun _ => 0))), (q_3, .inr (0, [.int 0, .int 0, .int 0, .int 0, .ref q_4, .ref q_5, .ref q_6, .ref q_7, .ref q_8, .ref q_9, .ref q_10, .ref q_11, .ref q_12, .ref q_13, .ref q_14, .ref q_15, .ref q_16, .ref q_17, .ref q_18])), (q_4, .inl (cA_19, 301, .inl (fun _ => 0))), (q_15, .inl (cA_20, 301, .inl (fun _ => 0))), (q_52, .inr (4, [.int 0, .ref q_53, .ref q_54, .ref q_55, .ref q_56, .ref q_57, .ref q_58, .ref q_59]))] H := hP
  have hD : va_D A [(h0, .inr (11, [.ref q_1, .int 0, .int (-1), .ref q_3, .ref q_21, .ref q_39, .int 0, .ref q_52, .int 0, .null, .null, .null, .null, .null, .null, .null, .null])), (q_1, .inl (cA_2, 8192, .inl (fun _ => 0))), (q_3, .inr (0, [.int 0, .int 0, .int 0, .int 0, .ref q_4, .ref q_5, .ref q_6, .ref q_7, .ref q_8, .ref q_9, .ref q_10, .ref q_11, .ref q_12, .ref q_13, .ref q_14, .ref q_15, .ref q_16, .ref q_17, .ref q_18])), (q_4, .inl (cA_19, 301, .inl (fun _ => 0))), (q_15, .inl (cA_20, 301, .inl (fun _ => 0))), (q_52, .inr (4, [.int 0, .ref q_53, .ref q_54, .ref q_55, .ref q_56, .ref q_57, .ref q_58, .ref q_59]))] := hD
  have hP := hP.sub (ws' := [(h0, .inr (11, [.ref q_1, .int 0, .int (-1), .ref q_3, .ref q_21, .ref q_39, .int 0, .ref q_52, .int 0, .null, .null, .null, .null, .null, .null, .null, .null])), (q_1, .inl (cA_2, 8192, .inl (fun _ => 0))), (q_3, .inr (0, [.int 0, .int 0, .int 0, .int 0, .ref q_4, .ref q_5, .ref q_6, .ref q_7, .ref q_8, .ref q_9, .ref q_10, .ref q_11, .ref q_12, .ref q_13, .ref q_14, .ref q_15, .ref q_16, .ref q_17, .ref q_18])), (q_4, .inl (cA_19, 301, .inl (fun _ => 0))), (q_15, .inl (cA_20, 301, .inl (fun _ => 0)))]) [0, 1, 2, 3, 4] rfl
  have hD := hD.sub (ws' := [(h0, .inr (11, [.ref q_1, .int 0, .int (-1), .ref q_3, .ref q_21, .ref q_39, .int 0, .ref q_52, .int 0, .null, .null, .null, .null, .null, .null, .null, .null])), (q_1, .inl (cA_2, 8192, .inl (fun _ => 0))), (q_3, .inr (0, [.int 0, .int 0, .int 0, .int 0, .ref q_4, .ref q_5, .ref q_6, .ref q_7, .ref q_8, .ref q_9, .ref q_10, .ref q_11, .ref q_12, .ref q_13, .ref q_14, .ref q_15, .ref q_16, .ref q_17, .ref q_18])), (q_4, .inl (cA_19, 301, .inl (fun _ => 0))), (q_15, .inl (cA_20, 301, .inl (fun _ => 0)))]) [0, 1, 2, 3, 4] (by decide) rfl
  refine lv_aload_n hx hb dX11_init_72 rfl (lv_at hl 0 rfl) ?_
  refine lv_iconst (v := 0) hx hb dX11_init_73 (by decide) ?_
  refine va_put (D := (dC, dI)) (ci := 11) (v := .int 0) (ty := .boolean) (C := RX11) (T := TX11) (N := 17) hx hb hts mem_X11_init_0 tyX11 tyX11_ok nmX11 hown hK hP hD hS 0 rfl rfl 8 (by decide) (ow (k := 24) rfl) (fun _ h9 => h9) rfl (by decide +kernel) rfl rfl (Nat.le_of_ble_eq_true rfl) dX11_init_74 (fun H locs hP hD hS => ?_)
  have hP : va_P (dC, dI) vwP [(h0, .inr (11, [.ref q_1, .int 0, .int (-1), .ref q_3, .ref q_21, .ref q_39, .int 0, .ref q_52, .int 0, .null, .null, .null, .null, .null, .null, .null, .null])), (q_1, .inl (cA_2, 8192, .inl (fun _ => 0))), (q_3, .inr (0, [.int 0, .int 0, .int 0, .int 0, .ref q_4, .ref q_5, .ref q_6, .ref q_7, .ref q_8, .ref q_9, .ref q_10, .ref q_11, .ref q_12, .ref q_13, .ref q_14, .ref q_15, .ref q_16, .ref q_17, .ref q_18])), (q_4, .inl (cA_19, 301, .inl (fun _ => 0))), (q_15, .inl (cA_20, 301, .inl (fun _ => 0)))] H := hP
  have hD : va_D A [(h0, .inr (11, [.ref q_1, .int 0, .int (-1), .ref q_3, .ref q_21, .ref q_39, .int 0, .ref q_52, .int 0, .null, .null, .null, .null, .null, .null, .null, .null])), (q_1, .inl (cA_2, 8192, .inl (fun _ => 0))), (q_3, .inr (0, [.int 0, .int 0, .int 0, .int 0, .ref q_4, .ref q_5, .ref q_6, .ref q_7, .ref q_8, .ref q_9, .ref q_10, .ref q_11, .ref q_12, .ref q_13, .ref q_14, .ref q_15, .ref q_16, .ref q_17, .ref q_18])), (q_4, .inl (cA_19, 301, .inl (fun _ => 0))), (q_15, .inl (cA_20, 301, .inl (fun _ => 0)))] := hD
  refine lv_aload_n hx hb dX11_init_77 rfl (lv_at hl 0 rfl) ?_
  refine va_new (ci := 7) (fs := [.int 0, .null, .int 0, .int 0, .int 0, .int 0, .int 0, .int 0, .null, .int 0, .int 0, .int 0, .int 0, .long 0, .int 0, .int 0, .null, .null]) (C := RX7) (T := TX7) (N := 18) hx hb hts mem_X11_init_7 tyX7 tyX7_ok hown (ow (k := 25) rfl) (ow (k := 26) rfl) (ow (k := 27) rfl) hK hP hD hS hA rfl (df_X7) (Nat.le_of_ble_eq_true rfl) (Nat.le_of_ble_eq_true rfl) dX11_init_78 (fun q_60 H hP hD hS => ?_)
  have hP : va_P (dC, dI) vwP [(h0, .inr (11, [.ref q_1, .int 0, .int (-1), .ref q_3, .ref q_21, .ref q_39, .int 0, .ref q_52, .int 0, .null, .null, .null, .null, .null, .null, .null, .null])), (q_1, .inl (cA_2, 8192, .inl (fun _ => 0))), (q_3, .inr (0, [.int 0, .int 0, .int 0, .int 0, .ref q_4, .ref q_5, .ref q_6, .ref q_7, .ref q_8, .ref q_9, .ref q_10, .ref q_11, .ref q_12, .ref q_13, .ref q_14, .ref q_15, .ref q_16, .ref q_17, .ref q_18])), (q_4, .inl (cA_19, 301, .inl (fun _ => 0))), (q_15, .inl (cA_20, 301, .inl (fun _ => 0))), (q_60, .inr (7, [.int 0, .null, .int 0, .int 0, .int 0, .int 0, .int 0, .int 0, .null, .int 0, .int 0, .int 0, .int 0, .long 0, .int 0, .int 0, .null, .null]))] H := hP
  have hD : va_D A [(h0, .inr (11, [.ref q_1, .int 0, .int (-1), .ref q_3, .ref q_21, .ref q_39, .int 0, .ref q_52, .int 0, .null, .null, .null, .null, .null, .null, .null, .null])), (q_1, .inl (cA_2, 8192, .inl (fun _ => 0))), (q_3, .inr (0, [.int 0, .int 0, .int 0, .int 0, .ref q_4, .ref q_5, .ref q_6, .ref q_7, .ref q_8, .ref q_9, .ref q_10, .ref q_11, .ref q_12, .ref q_13, .ref q_14, .ref q_15, .ref q_16, .ref q_17, .ref q_18])), (q_4, .inl (cA_19, 301, .inl (fun _ => 0))), (q_15, .inl (cA_20, 301, .inl (fun _ => 0))), (q_60, .inr (7, [.int 0, .null, .int 0, .int 0, .int 0, .int 0, .int 0, .int 0, .null, .int 0, .int 0, .int 0, .int 0, .long 0, .int 0, .int 0, .null, .null]))] := hD
  refine W.widen (k := 55) (n := 75783) (Nat.le_of_ble_eq_true rfl) (Nat.le_of_ble_eq_true rfl) ?_
  refine lv_dup hx hb dX11_init_81 rfl ?_
  have hPc := hP.sub (ws' := [(q_60, .inr (7, [.int 0, .null, .int 0, .int 0, .int 0, .int 0, .int 0, .int 0, .null, .int 0, .int 0, .int 0, .int 0, .long 0, .int 0, .int 0, .null, .null]))]) [5] rfl
  have hDc := hD.sub (ws' := [(q_60, .inr (7, [.int 0, .null, .int 0, .int 0, .int 0, .int 0, .int 0, .int 0, .null, .int 0, .int 0, .int 0, .int 0, .long 0, .int 0, .int 0, .null, .null]))]) [5] (by decide) rfl
  have hKc := hK.sub (tys' := []) [] rfl
  have hFc := va_free (wc := [(q_60, .inr (7, [.int 0, .null, .int 0, .int 0, .int 0, .int 0, .int 0, .int 0, .null, .int 0, .int 0, .int 0, .int 0, .long 0, .int 0, .int 0, .null, .null]))]) hD hS hA [5] rfl
  refine va_callv (va_runIN (As := []) (rest := [.ref q_60, .ref h0]) ⟨hx, hb, hml, hown, hts⟩ (c_X7_init l dC dI q_60 H.size) ⟨va_cnB 0 hts (goodIn_sub mem_X11_init_8 gw_X7_init) rfl rfl rfl hp3 (ow (k := 27) rfl) (by decide +kernel) ⟨(Nat.le_of_ble_eq_true rfl), (Nat.le_of_ble_eq_true rfl)⟩, rfl, (ow (k := 28) rfl)⟩ ⟨fun a U g mk q => by obtain ⟨q0, q1, qP, qK, qD⟩ := q; exact ⟨q0, q1, qP, va_K.moved (u := U) (U := U.calling g mk a) (Vm.Alike.refl U.vm) qK, qD⟩, fun U hU hW => ⟨rfl, by rw [hU], by rw [hU]; exact hPc, va_K.moved hW.alike hKc, hDc.weaken (fun _ _ _ _ => trivial)⟩⟩ rfl rfl hl.1 rfl (lv_room (Nat.le_of_ble_eq_true rfl)) dX11_init_82 ⟨(Nat.le_of_ble_eq_true rfl), (Nat.le_of_ble_eq_true rfl)⟩) hS (fun q _ h => hFc q h) hFc (fun  u t H1 locs ht hvm hw hB hz1 hk1 hS => ?_)
  obtain ⟨q_61, q_62, q_63, cA_64, cA_65, hP1, hK1, hD1⟩ := hB
  rw [ht] at hP1
  have hK1 := va_K.moved hvm.symm hK1
  obtain ⟨hP, hD⟩ := va_join (wr := [(h0, .inr (11, [.ref q_1, .int 0, .int (-1), .ref q_3, .ref q_21, .ref q_39, .int 0, .ref q_52, .int 0, .null, .null, .null, .null, .null, .null, .null, .null])), (q_1, .inl (cA_2, 8192, .inl (fun _ => 0))), (q_3, .inr (0, [.int 0, .int 0, .int 0, .int 0, .ref q_4, .ref q_5, .ref q_6, .ref q_7, .ref q_8, .ref q_9, .ref q_10, .ref q_11, .ref q_12, .ref q_13, .ref q_14, .ref q_15, .ref q_16, .ref q_17, .ref q_18])), (q_4, .inl (cA_19, 301, .inl (fun _ => 0))), (q_15, .inl (cA_20, 301, .inl (fun _ => 0)))]) (w1 := [(q_60, .inr (7, [.int 0, .ref q_61, .int 0, .int 0, .int 1, .int 0, .int 0, .int 0, .null, .int 0, .int 0, .int 0, .int 0, .long 0, .int 0, .int (-1), .ref q_62, .ref q_63])), (q_62, .inl (cA_64, 60, .inl (fun _ => 0))), (q_63, .inl (cA_65, 60, .inl (fun _ => 0)))]) hP hD [5] [0, 1, 2, 3, 4] rfl rfl (by decide) (by decide) hk1 hFc hP1 hD1
  have hK := (hK.sub (tys' := [(cA_2, .byte), (cA_19, .int), (cA_20, .int)]) [0, 1, 2] rfl).app hK1
  generalize H1 = H at hP hS ⊢
  have hP : va_P (dC, dI) vwP [(h0, .inr (11, [.ref q_1, .int 0, .int (-1), .ref q_3, .ref q_21, .ref q_39, .int 0, .ref q_52, .int 0, .null, .null, .null, .null, .null, .null, .null, .null])), (q_1, .inl (cA_2, 8192, .inl (fun _ => 0))), (q_3, .inr (0, [.int 0, .int 0, .int 0, .int 0, .ref q_4, .ref q_5, .ref q_6, .ref q_7, .ref q_8, .ref q_9, .ref q_10, .ref q_11, .ref q_12, .ref q_13, .ref q_14, .ref q_15, .ref q_16, .ref q_17, .ref q_18])), (q_4, .inl (cA_19, 301, .inl (fun _ => 0))), (q_15, .inl (cA_20, 301, .inl (fun _ => 0))), (q_60, .inr (7, [.int 0, .ref q_61, .int 0, .int 0, .int 1, .int 0, .int 0, .int 0, .null, .int 0, .int 0, .int 0, .int 0, .long 0, .int 0, .int (-1), .ref q_62, .ref q_63])), (q_62, .inl (cA_64, 60, .inl (fun _ => 0))), (q_63, .inl (cA_65, 60, .inl (fun _ => 0)))] H := hP
  have hD : va_D A [(h0, .inr (11, [.ref q_1, .int 0, .int (-1), .ref q_3, .ref q_21, .ref q_39, .int 0, .ref q_52, .int 0, .null, .null, .null, .null, .null, .null, .null, .null])), (q_1, .inl (cA_2, 8192, .inl (fun _ => 0))), (q_3, .inr (0, [.int 0, .int 0, .int 0, .int 0, .ref q_4, .ref q_5, .ref q_6, .ref q_7, .ref q_8, .ref q_9, .ref q_10, .ref q_11, .ref q_12, .ref q_13, .ref q_14, .ref q_15, .ref q_16, .ref q_17, .ref q_18])), (q_4, .inl (cA_19, 301, .inl (fun _ => 0))), (q_15, .inl (cA_20, 301, .inl (fun _ => 0))), (q_60, .inr (7, [.int 0, .ref q_61, .int 0, .int 0, .int 1, .int 0, .int 0, .int 0, .null, .int 0, .int 0, .int 0, .int 0, .long 0, .int 0, .int (-1), .ref q_62, .ref q_63])), (q_62, .inl (cA_64, 60, .inl (fun _ => 0))), (q_63, .inl (cA_65, 60, .inl (fun _ => 0)))] := hD
  have hK : va_K (dC, dI) vwP [(cA_2, .byte), (cA_19, .int), (cA_20, .int), (cA_64, .boolean), (cA_65, .int)] s := hK
  refine W.widen (k := 58) (n := 75903) (Nat.le_of_ble_eq_true rfl) (Nat.le_of_ble_eq_true rfl) ?_
  refine va_putF (D := (dC, dI)) (ci := 11) (v := .ref q_60) (ty := .object "SsaForge$Reader") (C := RX11) (T := TX11) (N := 17) hx hb hts mem_X11_init_0 tyX11 tyX11_ok nmX11 hown hK hP hD hS 0 rfl rfl 9 (by decide) (ow (k := 29) rfl) (fun _ h9 => h9) rfl hin rfl (by decide +kernel) rfl rfl (Nat.le_of_ble_eq_true rfl) dX11_init_85 (fun H locs hP hD hS => ?_)
  have hP : va_P (dC, dI) vwP [(h0, .inr (11, [.ref q_1, .int 0, .int (-1), .ref q_3, .ref q_21, .ref q_39, .int 0, .ref q_52, .int 0, .ref q_60, .null, .null, .null, .null, .null, .null, .null])), (q_1, .inl (cA_2, 8192, .inl (fun _ => 0))), (q_3, .inr (0, [.int 0, .int 0, .int 0, .int 0, .ref q_4, .ref q_5, .ref q_6, .ref q_7, .ref q_8, .ref q_9, .ref q_10, .ref q_11, .ref q_12, .ref q_13, .ref q_14, .ref q_15, .ref q_16, .ref q_17, .ref q_18])), (q_4, .inl (cA_19, 301, .inl (fun _ => 0))), (q_15, .inl (cA_20, 301, .inl (fun _ => 0))), (q_60, .inr (7, [.int 0, .ref q_61, .int 0, .int 0, .int 1, .int 0, .int 0, .int 0, .null, .int 0, .int 0, .int 0, .int 0, .long 0, .int 0, .int (-1), .ref q_62, .ref q_63])), (q_62, .inl (cA_64, 60, .inl (fun _ => 0))), (q_63, .inl (cA_65, 60, .inl (fun _ => 0)))] H := hP
  have hD : va_D A [(h0, .inr (11, [.ref q_1, .int 0, .int (-1), .ref q_3, .ref q_21, .ref q_39, .int 0, .ref q_52, .int 0, .ref q_60, .null, .null, .null, .null, .null, .null, .null])), (q_1, .inl (cA_2, 8192, .inl (fun _ => 0))), (q_3, .inr (0, [.int 0, .int 0, .int 0, .int 0, .ref q_4, .ref q_5, .ref q_6, .ref q_7, .ref q_8, .ref q_9, .ref q_10, .ref q_11, .ref q_12, .ref q_13, .ref q_14, .ref q_15, .ref q_16, .ref q_17, .ref q_18])), (q_4, .inl (cA_19, 301, .inl (fun _ => 0))), (q_15, .inl (cA_20, 301, .inl (fun _ => 0))), (q_60, .inr (7, [.int 0, .ref q_61, .int 0, .int 0, .int 1, .int 0, .int 0, .int 0, .null, .int 0, .int 0, .int 0, .int 0, .long 0, .int 0, .int (-1), .ref q_62, .ref q_63])), (q_62, .inl (cA_64, 60, .inl (fun _ => 0))), (q_63, .inl (cA_65, 60, .inl (fun _ => 0)))] := hD
  refine lv_aload_n hx hb dX11_init_88 rfl (lv_at hl 0 rfl) ?_
  refine va_new (ci := 8) (fs := [.null, .null, .null, .null, .null, .null, .int 0, .int 0]) (C := RX8) (T := TX8) (N := 8) hx hb hts mem_X11_init_9 tyX8 tyX8_ok hown (ow (k := 30) rfl) (ow (k := 31) rfl) (ow (k := 32) rfl) hK hP hD hS hA rfl (df_X8) (Nat.le_of_ble_eq_true rfl) (Nat.le_of_ble_eq_true rfl) dX11_init_89 (fun q_66 H hP hD hS => ?_)
  have hP : va_P (dC, dI) vwP [(h0, .inr (11, [.ref q_1, .int 0, .int (-1), .ref q_3, .ref q_21, .ref q_39, .int 0, .ref q_52, .int 0, .ref q_60, .null, .null, .null, .null, .null, .null, .null])), (q_1, .inl (cA_2, 8192, .inl (fun _ => 0))), (q_3, .inr (0, [.int 0, .int 0, .int 0, .int 0, .ref q_4, .ref q_5, .ref q_6, .ref q_7, .ref q_8, .ref q_9, .ref q_10, .ref q_11, .ref q_12, .ref q_13, .ref q_14, .ref q_15, .ref q_16, .ref q_17, .ref q_18])), (q_4, .inl (cA_19, 301, .inl (fun _ => 0))), (q_15, .inl (cA_20, 301, .inl (fun _ => 0))), (q_60, .inr (7, [.int 0, .ref q_61, .int 0, .int 0, .int 1, .int 0, .int 0, .int 0, .null, .int 0, .int 0, .int 0, .int 0, .long 0, .int 0, .int (-1), .ref q_62, .ref q_63])), (q_62, .inl (cA_64, 60, .inl (fun _ => 0))), (q_63, .inl (cA_65, 60, .inl (fun _ => 0))), (q_66, .inr (8, [.null, .null, .null, .null, .null, .null, .int 0, .int 0]))] H := hP
  have hD : va_D A [(h0, .inr (11, [.ref q_1, .int 0, .int (-1), .ref q_3, .ref q_21, .ref q_39, .int 0, .ref q_52, .int 0, .ref q_60, .null, .null, .null, .null, .null, .null, .null])), (q_1, .inl (cA_2, 8192, .inl (fun _ => 0))), (q_3, .inr (0, [.int 0, .int 0, .int 0, .int 0, .ref q_4, .ref q_5, .ref q_6, .ref q_7, .ref q_8, .ref q_9, .ref q_10, .ref q_11, .ref q_12, .ref q_13, .ref q_14, .ref q_15, .ref q_16, .ref q_17, .ref q_18])), (q_4, .inl (cA_19, 301, .inl (fun _ => 0))), (q_15, .inl (cA_20, 301, .inl (fun _ => 0))), (q_60, .inr (7, [.int 0, .ref q_61, .int 0, .int 0, .int 1, .int 0, .int 0, .int 0, .null, .int 0, .int 0, .int 0, .int 0, .long 0, .int 0, .int (-1), .ref q_62, .ref q_63])), (q_62, .inl (cA_64, 60, .inl (fun _ => 0))), (q_63, .inl (cA_65, 60, .inl (fun _ => 0))), (q_66, .inr (8, [.null, .null, .null, .null, .null, .null, .int 0, .int 0]))] := hD
  refine W.widen (k := 59) (n := 75911) (Nat.le_of_ble_eq_true rfl) (Nat.le_of_ble_eq_true rfl) ?_
  refine lv_dup hx hb dX11_init_92 rfl ?_
  have hPc := hP.sub (ws' := [(q_66, .inr (8, [.null, .null, .null, .null, .null, .null, .int 0, .int 0]))]) [8] rfl
  have hDc := hD.sub (ws' := [(q_66, .inr (8, [.null, .null, .null, .null, .null, .null, .int 0, .int 0]))]) [8] (by decide) rfl
  have hKc := hK.sub (tys' := []) [] rfl
  have hFc := va_free (wc := [(q_66, .inr (8, [.null, .null, .null, .null, .null, .null, .int 0, .int 0]))]) hD hS hA [8] rfl
  refine va_callv (va_runIN (As := []) (rest := [.ref q_66, .ref h0]) ⟨hx, hb, hml, hown, hts⟩ (c_X8_init l dC dI q_66 H.size) ⟨va_cnB 0 hts (goodIn_sub mem_X11_init_10 gw_X8_init) rfl rfl rfl hp4 (ow (k := 32) rfl) (by decide +kernel) ⟨(Nat.le_of_ble_eq_true rfl), (Nat.le_of_ble_eq_true rfl)⟩, rfl, (ow (k := 33) rfl)⟩ ⟨fun a U g mk q => by obtain ⟨q0, q1, qP, qK, qD⟩ := q; exact ⟨q0, q1, qP, va_K.moved (u := U) (U := U.calling g mk a) (Vm.Alike.refl U.vm) qK, qD⟩, fun U hU hW => ⟨rfl, by rw [hU], by rw [hU]; exact hPc, va_K.moved hW.alike hKc, hDc.weaken (fun _ _ _ _ => trivial)⟩⟩ rfl rfl hl.1 rfl (lv_room (Nat.le_of_ble_eq_true rfl)) dX11_init_93 ⟨(Nat.le_of_ble_eq_true rfl), (Nat.le_of_ble_eq_true rfl)⟩) hS (fun q _ h => hFc q h) hFc (fun  u t H1 locs ht hvm hw hB hz1 hk1 hS => ?_)
  obtain ⟨q_67, q_68, q_69, q_70, q_71, q_72, hP1, hK1, hD1⟩ := hB
  rw [ht] at hP1
  have hK1 := va_K.moved hvm.symm hK1
  obtain ⟨hP, hD⟩ := va_join (wr := [(h0, .inr (11, [.ref q_1, .int 0, .int (-1), .ref q_3, .ref q_21, .ref q_39, .int 0, .ref q_52, .int 0, .ref q_60, .null, .null, .null, .null, .null, .null, .null])), (q_1, .inl (cA_2, 8192, .inl (fun _ => 0))), (q_3, .inr (0, [.int 0, .int 0, .int 0, .int 0, .ref q_4, .ref q_5, .ref q_6, .ref q_7, .ref q_8, .ref q_9, .ref q_10, .ref q_11, .ref q_12, .ref q_13, .ref q_14, .ref q_15, .ref q_16, .ref q_17, .ref q_18])), (q_4, .inl (cA_19, 301, .inl (fun _ => 0))), (q_15, .inl (cA_20, 301, .inl (fun _ => 0))), (q_60, .inr (7, [.int 0, .ref q_61, .int 0, .int 0, .int 1, .int 0, .int 0, .int 0, .null, .int 0, .int 0, .int 0, .int 0, .long 0, .int 0, .int (-1), .ref q_62, .ref q_63])), (q_62, .inl (cA_64, 60, .inl (fun _ => 0))), (q_63, .inl (cA_65, 60, .inl (fun _ => 0)))]) (w1 := [(q_66, .inr (8, [.ref q_67, .ref q_68, .ref q_69, .ref q_70, .ref q_71, .ref q_72, .int 0, .int 0]))]) hP hD [8] [0, 1, 2, 3, 4, 5, 6, 7] rfl rfl (by decide) (by decide) hk1 hFc hP1 hD1
  have hK := (hK.sub (tys' := [(cA_2, .byte), (cA_19, .int), (cA_20, .int), (cA_64, .boolean), (cA_65, .int)]) [0, 1, 2, 3, 4] rfl).app hK1
  generalize H1 = H at hP hS ⊢
  have hP : va_P (dC, dI) vwP [(h0, .inr (11, [.ref q_1, .int 0, .int (-1), .ref q_3, .ref q_21, .ref q_39, .int 0, .ref q_52, .int 0, .ref q_60, .null, .null, .null, .null, .null, .null, .null])), (q_1, .inl (cA_2, 8192, .inl (fun _ => 0))), (q_3, .inr (0, [.int 0, .int 0, .int 0, .int 0, .ref q_4, .ref q_5, .ref q_6, .ref q_7, .ref q_8, .ref q_9, .ref q_10, .ref q_11, .ref q_12, .ref q_13, .ref q_14, .ref q_15, .ref q_16, .ref q_17, .ref q_18])), (q_4, .inl (cA_19, 301, .inl (fun _ => 0))), (q_15, .inl (cA_20, 301, .inl (fun _ => 0))), (q_60, .inr (7, [.int 0, .ref q_61, .int 0, .int 0, .int 1, .int 0, .int 0, .int 0, .null, .int 0, .int 0, .int 0, .int 0, .long 0, .int 0, .int (-1), .ref q_62, .ref q_63])), (q_62, .inl (cA_64, 60, .inl (fun _ => 0))), (q_63, .inl (cA_65, 60, .inl (fun _ => 0))), (q_66, .inr (8, [.ref q_67, .ref q_68, .ref q_69, .ref q_70, .ref q_71, .ref q_72, .int 0, .int 0]))] H := hP
  have hD : va_D A [(h0, .inr (11, [.ref q_1, .int 0, .int (-1), .ref q_3, .ref q_21, .ref q_39, .int 0, .ref q_52, .int 0, .ref q_60, .null, .null, .null, .null, .null, .null, .null])), (q_1, .inl (cA_2, 8192, .inl (fun _ => 0))), (q_3, .inr (0, [.int 0, .int 0, .int 0, .int 0, .ref q_4, .ref q_5, .ref q_6, .ref q_7, .ref q_8, .ref q_9, .ref q_10, .ref q_11, .ref q_12, .ref q_13, .ref q_14, .ref q_15, .ref q_16, .ref q_17, .ref q_18])), (q_4, .inl (cA_19, 301, .inl (fun _ => 0))), (q_15, .inl (cA_20, 301, .inl (fun _ => 0))), (q_60, .inr (7, [.int 0, .ref q_61, .int 0, .int 0, .int 1, .int 0, .int 0, .int 0, .null, .int 0, .int 0, .int 0, .int 0, .long 0, .int 0, .int (-1), .ref q_62, .ref q_63])), (q_62, .inl (cA_64, 60, .inl (fun _ => 0))), (q_63, .inl (cA_65, 60, .inl (fun _ => 0))), (q_66, .inr (8, [.ref q_67, .ref q_68, .ref q_69, .ref q_70, .ref q_71, .ref q_72, .int 0, .int 0]))] := hD
  have hK : va_K (dC, dI) vwP [(cA_2, .byte), (cA_19, .int), (cA_20, .int), (cA_64, .boolean), (cA_65, .int)] s := hK
  refine W.widen (k := 65) (n := 84335) (Nat.le_of_ble_eq_true rfl) (Nat.le_of_ble_eq_true rfl) ?_
  refine va_putF (D := (dC, dI)) (ci := 11) (v := .ref q_66) (ty := .object "SsaForge$SsaMaker") (C := RX11) (T := TX11) (N := 17) hx hb hts mem_X11_init_0 tyX11 tyX11_ok nmX11 hown hK hP hD hS 0 rfl rfl 10 (by decide) (ow (k := 34) rfl) (fun _ h9 => h9) rfl hin rfl (by decide +kernel) rfl rfl (Nat.le_of_ble_eq_true rfl) dX11_init_96 (fun H locs hP hD hS => ?_)
  have hP : va_P (dC, dI) vwP [(h0, .inr (11, [.ref q_1, .int 0, .int (-1), .ref q_3, .ref q_21, .ref q_39, .int 0, .ref q_52, .int 0, .ref q_60, .ref q_66, .null, .null, .null, .null, .null, .null])), (q_1, .inl (cA_2, 8192, .inl (fun _ => 0))), (q_3, .inr (0, [.int 0, .int 0, .int 0, .int 0, .ref q_4, .ref q_5, .ref q_6, .ref q_7, .ref q_8, .ref q_9, .ref q_10, .ref q_11, .ref q_12, .ref q_13, .ref q_14, .ref q_15, .ref q_16, .ref q_17, .ref q_18])), (q_4, .inl (cA_19, 301, .inl (fun _ => 0))), (q_15, .inl (cA_20, 301, .inl (fun _ => 0))), (q_60, .inr (7, [.int 0, .ref q_61, .int 0, .int 0, .int 1, .int 0, .int 0, .int 0, .null, .int 0, .int 0, .int 0, .int 0, .long 0, .int 0, .int (-1), .ref q_62, .ref q_63])), (q_62, .inl (cA_64, 60, .inl (fun _ => 0))), (q_63, .inl (cA_65, 60, .inl (fun _ => 0))), (q_66, .inr (8, [.ref q_67, .ref q_68, .ref q_69, .ref q_70, .ref q_71, .ref q_72, .int 0, .int 0]))] H := hP
  have hD : va_D A [(h0, .inr (11, [.ref q_1, .int 0, .int (-1), .ref q_3, .ref q_21, .ref q_39, .int 0, .ref q_52, .int 0, .ref q_60, .ref q_66, .null, .null, .null, .null, .null, .null])), (q_1, .inl (cA_2, 8192, .inl (fun _ => 0))), (q_3, .inr (0, [.int 0, .int 0, .int 0, .int 0, .ref q_4, .ref q_5, .ref q_6, .ref q_7, .ref q_8, .ref q_9, .ref q_10, .ref q_11, .ref q_12, .ref q_13, .ref q_14, .ref q_15, .ref q_16, .ref q_17, .ref q_18])), (q_4, .inl (cA_19, 301, .inl (fun _ => 0))), (q_15, .inl (cA_20, 301, .inl (fun _ => 0))), (q_60, .inr (7, [.int 0, .ref q_61, .int 0, .int 0, .int 1, .int 0, .int 0, .int 0, .null, .int 0, .int 0, .int 0, .int 0, .long 0, .int 0, .int (-1), .ref q_62, .ref q_63])), (q_62, .inl (cA_64, 60, .inl (fun _ => 0))), (q_63, .inl (cA_65, 60, .inl (fun _ => 0))), (q_66, .inr (8, [.ref q_67, .ref q_68, .ref q_69, .ref q_70, .ref q_71, .ref q_72, .int 0, .int 0]))] := hD
  have hP := hP.sub (ws' := [(h0, .inr (11, [.ref q_1, .int 0, .int (-1), .ref q_3, .ref q_21, .ref q_39, .int 0, .ref q_52, .int 0, .ref q_60, .ref q_66, .null, .null, .null, .null, .null, .null])), (q_1, .inl (cA_2, 8192, .inl (fun _ => 0))), (q_3, .inr (0, [.int 0, .int 0, .int 0, .int 0, .ref q_4, .ref q_5, .ref q_6, .ref q_7, .ref q_8, .ref q_9, .ref q_10, .ref q_11, .ref q_12, .ref q_13, .ref q_14, .ref q_15, .ref q_16, .ref q_17, .ref q_18])), (q_4, .inl (cA_19, 301, .inl (fun _ => 0))), (q_15, .inl (cA_20, 301, .inl (fun _ => 0))), (q_60, .inr (7, [.int 0, .ref q_61, .int 0, .int 0, .int 1, .int 0, .int 0, .int 0, .null, .int 0, .int 0, .int 0, .int 0, .long 0, .int 0, .int (-1), .ref q_62, .ref q_63])), (q_62, .inl (cA_64, 60, .inl (fun _ => 0))), (q_63, .inl (cA_65, 60, .inl (fun _ => 0)))]) [0, 1, 2, 3, 4, 5, 6, 7] rfl
  have hD := hD.sub (ws' := [(h0, .inr (11, [.ref q_1, .int 0, .int (-1), .ref q_3, .ref q_21, .ref q_39, .int 0, .ref q_52, .int 0, .ref q_60, .ref q_66, .null, .null, .null, .null, .null, .null])), (q_1, .inl (cA_2, 8192, .inl (fun _ => 0))), (q_3, .inr (0, [.int 0, .int 0, .int 0, .int 0, .ref q_4, .ref q_5, .ref q_6, .ref q_7, .ref q_8, .ref q_9, .ref q_10, .ref q_11, .ref q_12, .ref q_13, .ref q_14, .ref q_15, .ref q_16, .ref q_17, .ref q_18])), (q_4, .inl (cA_19, 301, .inl (fun _ => 0))), (q_15, .inl (cA_20, 301, .inl (fun _ => 0))), (q_60, .inr (7, [.int 0, .ref q_61, .int 0, .int 0, .int 1, .int 0, .int 0, .int 0, .null, .int 0, .int 0, .int 0, .int 0, .long 0, .int 0, .int (-1), .ref q_62, .ref q_63])), (q_62, .inl (cA_64, 60, .inl (fun _ => 0))), (q_63, .inl (cA_65, 60, .inl (fun _ => 0)))]) [0, 1, 2, 3, 4, 5, 6, 7] (by decide) rfl
  refine lv_aload_n hx hb dX11_init_99 rfl (lv_at hl 0 rfl) ?_
  refine va_new (ci := 1) (fs := [.null, .null, .null, .null, .null, .int 0]) (C := RX1) (T := TX1) (N := 6) hx hb hts mem_X11_init_11 tyX1 tyX1_ok hown (ow (k := 35) rfl) (ow (k := 36) rfl) (ow (k := 37) rfl) hK hP hD hS hA rfl (df_X1) (Nat.le_of_ble_eq_true rfl) (Nat.le_of_ble_eq_true rfl) dX11_init_100 (fun q_73 H hP hD hS => ?_)
  have hP : va_P (dC, dI) vwP [(h0, .inr (11, [.ref q_1, .int 0, .int (-1), .ref q_3, .ref q_21, .ref q_39, .int 0, .ref q_52, .int 0, .ref q_60, .ref q_66, .null, .null, .null, .null, .null, .null])), (q_1, .inl (cA_2, 8192, .inl (fun _ => 0))), (q_3, .inr (0, [.int 0, .int 0, .int 0, .int 0, .ref q_4, .ref q_5, .ref q_6, .ref q_7, .ref q_8, .ref q_9, .ref q_10, .ref q_11, .ref q_12, .ref q_13, .ref q_14, .ref q_15, .ref q_16, .ref q_17, .ref q_18])), (q_4, .inl (cA_19, 301, .inl (fun _ => 0))), (q_15, .inl (cA_20, 301, .inl (fun _ => 0))), (q_60, .inr (7, [.int 0, .ref q_61, .int 0, .int 0, .int 1, .int 0, .int 0, .int 0, .null, .int 0, .int 0, .int 0, .int 0, .long 0, .int 0, .int (-1), .ref q_62, .ref q_63])), (q_62, .inl (cA_64, 60, .inl (fun _ => 0))), (q_63, .inl (cA_65, 60, .inl (fun _ => 0))), (q_73, .inr (1, [.null, .null, .null, .null, .null, .int 0]))] H := hP
  have hD : va_D A [(h0, .inr (11, [.ref q_1, .int 0, .int (-1), .ref q_3, .ref q_21, .ref q_39, .int 0, .ref q_52, .int 0, .ref q_60, .ref q_66, .null, .null, .null, .null, .null, .null])), (q_1, .inl (cA_2, 8192, .inl (fun _ => 0))), (q_3, .inr (0, [.int 0, .int 0, .int 0, .int 0, .ref q_4, .ref q_5, .ref q_6, .ref q_7, .ref q_8, .ref q_9, .ref q_10, .ref q_11, .ref q_12, .ref q_13, .ref q_14, .ref q_15, .ref q_16, .ref q_17, .ref q_18])), (q_4, .inl (cA_19, 301, .inl (fun _ => 0))), (q_15, .inl (cA_20, 301, .inl (fun _ => 0))), (q_60, .inr (7, [.int 0, .ref q_61, .int 0, .int 0, .int 1, .int 0, .int 0, .int 0, .null, .int 0, .int 0, .int 0, .int 0, .long 0, .int 0, .int (-1), .ref q_62, .ref q_63])), (q_62, .inl (cA_64, 60, .inl (fun _ => 0))), (q_63, .inl (cA_65, 60, .inl (fun _ => 0))), (q_73, .inr (1, [.null, .null, .null, .null, .null, .int 0]))] := hD
  refine W.widen (k := 66) (n := 84341) (Nat.le_of_ble_eq_true rfl) (Nat.le_of_ble_eq_true rfl) ?_
  refine lv_dup hx hb dX11_init_103 rfl ?_
  have hPc := hP.sub (ws' := [(q_73, .inr (1, [.null, .null, .null, .null, .null, .int 0]))]) [8] rfl
  have hDc := hD.sub (ws' := [(q_73, .inr (1, [.null, .null, .null, .null, .null, .int 0]))]) [8] (by decide) rfl
  have hKc := hK.sub (tys' := []) [] rfl
  have hFc := va_free (wc := [(q_73, .inr (1, [.null, .null, .null, .null, .null, .int 0]))]) hD hS hA [8] rfl
  refine va_callv (va_runIN (As := []) (rest := [.ref q_73, .ref h0]) ⟨hx, hb, hml, hown, hts⟩ (c_X1_init l dC dI q_73 H.size) ⟨va_cnB 0 hts (goodIn_sub mem_X11_init_12 gw_X1_init) rfl rfl rfl hp5 (ow (k := 37) rfl) (by decide +kernel) ⟨(Nat.le_of_ble_eq_true rfl), (Nat.le_of_ble_eq_true rfl)⟩, rfl, (ow (k := 38) rfl)⟩ ⟨fun a U g mk q => by obtain ⟨q0, q1, qP, qK, qD⟩ := q; exact ⟨q0, q1, qP, va_K.moved (u := U) (U := U.calling g mk a) (Vm.Alike.refl U.vm) qK, qD⟩, fun U hU hW => ⟨rfl, by rw [hU], by rw [hU]; exact hPc, va_K.moved hW.alike hKc, hDc.weaken (fun _ _ _ _ => trivial)⟩⟩ rfl rfl hl.1 rfl (lv_room (Nat.le_of_ble_eq_true rfl)) dX11_init_104 ⟨(Nat.le_of_ble_eq_true rfl), (Nat.le_of_ble_eq_true rfl)⟩) hS (fun q _ h => hFc q h) hFc (fun  u t H1 locs ht hvm hw hB hz1 hk1 hS => ?_)
  obtain ⟨q_74, q_75, q_76, q_77, q_78, hP1, hK1, hD1⟩ := hB
  rw [ht] at hP1
  have hK1 := va_K.moved hvm.symm hK1
  obtain ⟨hP, hD⟩ := va_join (wr := [(h0, .inr (11, [.ref q_1, .int 0, .int (-1), .ref q_3, .ref q_21, .ref q_39, .int 0, .ref q_52, .int 0, .ref q_60, .ref q_66, .null, .null, .null, .null, .null, .null])), (q_1, .inl (cA_2, 8192, .inl (fun _ => 0))), (q_3, .inr (0, [.int 0, .int 0, .int 0, .int 0, .ref q_4, .ref q_5, .ref q_6, .ref q_7, .ref q_8, .ref q_9, .ref q_10, .ref q_11, .ref q_12, .ref q_13, .ref q_14, .ref q_15, .ref q_16, .ref q_17, .ref q_18])), (q_4, .inl (cA_19, 301, .inl (fun _ => 0))), (q_15, .inl (cA_20, 301, .inl (fun _ => 0))), (q_60, .inr (7, [.int 0, .ref q_61, .int 0, .int 0, .int 1, .int 0, .int 0, .int 0, .null, .int 0, .int 0, .int 0, .int 0, .long 0, .int 0, .int (-1), .ref q_62, .ref q_63])), (q_62, .inl (cA_64, 60, .inl (fun _ => 0))), (q_63, .inl (cA_65, 60, .inl (fun _ => 0)))]) (w1 := [(q_73, .inr (1, [.ref q_74, .ref q_75, .ref q_76, .ref q_77, .ref q_78, .int 0]))]) hP hD [8] [0, 1, 2, 3, 4, 5, 6, 7] rfl rfl (by decide) (by decide) hk1 hFc hP1 hD1
  have hK := (hK.sub (tys' := [(cA_2, .byte), (cA_19, .int), (cA_20, .int), (cA_64, .boolean), (cA_65, .int)]) [0, 1, 2, 3, 4] rfl).app hK1
  generalize H1 = H at hP hS ⊢
  have hP : va_P (dC, dI) vwP [(h0, .inr (11, [.ref q_1, .int 0, .int (-1), .ref q_3, .ref q_21, .ref q_39, .int 0, .ref q_52, .int 0, .ref q_60, .ref q_66, .null, .null, .null, .null, .null, .null])), (q_1, .inl (cA_2, 8192, .inl (fun _ => 0))), (q_3, .inr (0, [.int 0, .int 0, .int 0, .int 0, .ref q_4, .ref q_5, .ref q_6, .ref q_7, .ref q_8, .ref q_9, .ref q_10, .ref q_11, .ref q_12, .ref q_13, .ref q_14, .ref q_15, .ref q_16, .ref q_17, .ref q_18])), (q_4, .inl (cA_19, 301, .inl (fun _ => 0))), (q_15, .inl (cA_20, 301, .inl (fun _ => 0))), (q_60, .inr (7, [.int 0, .ref q_61, .int 0, .int 0, .int 1, .int 0, .int 0, .int 0, .null, .int 0, .int 0, .int 0, .int 0, .long 0, .int 0, .int (-1), .ref q_62, .ref q_63])), (q_62, .inl (cA_64, 60, .inl (fun _ => 0))), (q_63, .inl (cA_65, 60, .inl (fun _ => 0))), (q_73, .inr (1, [.ref q_74, .ref q_75, .ref q_76, .ref q_77, .ref q_78, .int 0]))] H := hP
  have hD : va_D A [(h0, .inr (11, [.ref q_1, .int 0, .int (-1), .ref q_3, .ref q_21, .ref q_39, .int 0, .ref q_52, .int 0, .ref q_60, .ref q_66, .null, .null, .null, .null, .null, .null])), (q_1, .inl (cA_2, 8192, .inl (fun _ => 0))), (q_3, .inr (0, [.int 0, .int 0, .int 0, .int 0, .ref q_4, .ref q_5, .ref q_6, .ref q_7, .ref q_8, .ref q_9, .ref q_10, .ref q_11, .ref q_12, .ref q_13, .ref q_14, .ref q_15, .ref q_16, .ref q_17, .ref q_18])), (q_4, .inl (cA_19, 301, .inl (fun _ => 0))), (q_15, .inl (cA_20, 301, .inl (fun _ => 0))), (q_60, .inr (7, [.int 0, .ref q_61, .int 0, .int 0, .int 1, .int 0, .int 0, .int 0, .null, .int 0, .int 0, .int 0, .int 0, .long 0, .int 0, .int (-1), .ref q_62, .ref q_63])), (q_62, .inl (cA_64, 60, .inl (fun _ => 0))), (q_63, .inl (cA_65, 60, .inl (fun _ => 0))), (q_73, .inr (1, [.ref q_74, .ref q_75, .ref q_76, .ref q_77, .ref q_78, .int 0]))] := hD
  have hK : va_K (dC, dI) vwP [(cA_2, .byte), (cA_19, .int), (cA_20, .int), (cA_64, .boolean), (cA_65, .int)] s := hK
  refine W.widen (k := 71) (n := 87289) (Nat.le_of_ble_eq_true rfl) (Nat.le_of_ble_eq_true rfl) ?_
  refine va_putF (D := (dC, dI)) (ci := 11) (v := .ref q_73) (ty := .object "SsaForge$Constants") (C := RX11) (T := TX11) (N := 17) hx hb hts mem_X11_init_0 tyX11 tyX11_ok nmX11 hown hK hP hD hS 0 rfl rfl 11 (by decide) (ow (k := 39) rfl) (fun _ h9 => h9) rfl hin rfl (by decide +kernel) rfl rfl (Nat.le_of_ble_eq_true rfl) dX11_init_107 (fun H locs hP hD hS => ?_)
  have hP : va_P (dC, dI) vwP [(h0, .inr (11, [.ref q_1, .int 0, .int (-1), .ref q_3, .ref q_21, .ref q_39, .int 0, .ref q_52, .int 0, .ref q_60, .ref q_66, .ref q_73, .null, .null, .null, .null, .null])), (q_1, .inl (cA_2, 8192, .inl (fun _ => 0))), (q_3, .inr (0, [.int 0, .int 0, .int 0, .int 0, .ref q_4, .ref q_5, .ref q_6, .ref q_7, .ref q_8, .ref q_9, .ref q_10, .ref q_11, .ref q_12, .ref q_13, .ref q_14, .ref q_15, .ref q_16, .ref q_17, .ref q_18])), (q_4, .inl (cA_19, 301, .inl (fun _ => 0))), (q_15, .inl (cA_20, 301, .inl (fun _ => 0))), (q_60, .inr (7, [.int 0, .ref q_61, .int 0, .int 0, .int 1, .int 0, .int 0, .int 0, .null, .int 0, .int 0, .int 0, .int 0, .long 0, .int 0, .int (-1), .ref q_62, .ref q_63])), (q_62, .inl (cA_64, 60, .inl (fun _ => 0))), (q_63, .inl (cA_65, 60, .inl (fun _ => 0))), (q_73, .inr (1, [.ref q_74, .ref q_75, .ref q_76, .ref q_77, .ref q_78, .int 0]))] H := hP
  have hD : va_D A [(h0, .inr (11, [.ref q_1, .int 0, .int (-1), .ref q_3, .ref q_21, .ref q_39, .int 0, .ref q_52, .int 0, .ref q_60, .ref q_66, .ref q_73, .null, .null, .null, .null, .null])), (q_1, .inl (cA_2, 8192, .inl (fun _ => 0))), (q_3, .inr (0, [.int 0, .int 0, .int 0, .int 0, .ref q_4, .ref q_5, .ref q_6, .ref q_7, .ref q_8, .ref q_9, .ref q_10, .ref q_11, .ref q_12, .ref q_13, .ref q_14, .ref q_15, .ref q_16, .ref q_17, .ref q_18])), (q_4, .inl (cA_19, 301, .inl (fun _ => 0))), (q_15, .inl (cA_20, 301, .inl (fun _ => 0))), (q_60, .inr (7, [.int 0, .ref q_61, .int 0, .int 0, .int 1, .int 0, .int 0, .int 0, .null, .int 0, .int 0, .int 0, .int 0, .long 0, .int 0, .int (-1), .ref q_62, .ref q_63])), (q_62, .inl (cA_64, 60, .inl (fun _ => 0))), (q_63, .inl (cA_65, 60, .inl (fun _ => 0))), (q_73, .inr (1, [.ref q_74, .ref q_75, .ref q_76, .ref q_77, .ref q_78, .int 0]))] := hD
  have hP := hP.sub (ws' := [(h0, .inr (11, [.ref q_1, .int 0, .int (-1), .ref q_3, .ref q_21, .ref q_39, .int 0, .ref q_52, .int 0, .ref q_60, .ref q_66, .ref q_73, .null, .null, .null, .null, .null])), (q_1, .inl (cA_2, 8192, .inl (fun _ => 0))), (q_3, .inr (0, [.int 0, .int 0, .int 0, .int 0, .ref q_4, .ref q_5, .ref q_6, .ref q_7, .ref q_8, .ref q_9, .ref q_10, .ref q_11, .ref q_12, .ref q_13, .ref q_14, .ref q_15, .ref q_16, .ref q_17, .ref q_18])), (q_4, .inl (cA_19, 301, .inl (fun _ => 0))), (q_15, .inl (cA_20, 301, .inl (fun _ => 0))), (q_60, .inr (7, [.int 0, .ref q_61, .int 0, .int 0, .int 1, .int 0, .int 0, .int 0, .null, .int 0, .int 0, .int 0, .int 0, .long 0, .int 0, .int (-1), .ref q_62, .ref q_63])), (q_62, .inl (cA_64, 60, .inl (fun _ => 0))), (q_63, .inl (cA_65, 60, .inl (fun _ => 0)))]) [0, 1, 2, 3, 4, 5, 6, 7] rfl
  have hD := hD.sub (ws' := [(h0, .inr (11, [.ref q_1, .int 0, .int (-1), .ref q_3, .ref q_21, .ref q_39, .int 0, .ref q_52, .int 0, .ref q_60, .ref q_66, .ref q_73, .null, .null, .null, .null, .null])), (q_1, .inl (cA_2, 8192, .inl (fun _ => 0))), (q_3, .inr (0, [.int 0, .int 0, .int 0, .int 0, .ref q_4, .ref q_5, .ref q_6, .ref q_7, .ref q_8, .ref q_9, .ref q_10, .ref q_11, .ref q_12, .ref q_13, .ref q_14, .ref q_15, .ref q_16, .ref q_17, .ref q_18])), (q_4, .inl (cA_19, 301, .inl (fun _ => 0))), (q_15, .inl (cA_20, 301, .inl (fun _ => 0))), (q_60, .inr (7, [.int 0, .ref q_61, .int 0, .int 0, .int 1, .int 0, .int 0, .int 0, .null, .int 0, .int 0, .int 0, .int 0, .long 0, .int 0, .int (-1), .ref q_62, .ref q_63])), (q_62, .inl (cA_64, 60, .inl (fun _ => 0))), (q_63, .inl (cA_65, 60, .inl (fun _ => 0)))]) [0, 1, 2, 3, 4, 5, 6, 7] (by decide) rfl
  refine lv_aload_n hx hb dX11_init_110 rfl (lv_at hl 0 rfl) ?_
  refine va_new (ci := 3) (fs := [.null, .null, .int 0, .null, .null]) (C := RX3) (T := TX3) (N := 5) hx hb hts mem_X11_init_13 tyX3 tyX3_ok hown (ow (k := 40) rfl) (ow (k := 41) rfl) (ow (k := 42) rfl) hK hP hD hS hA rfl (df_X3) (Nat.le_of_ble_eq_true rfl) (Nat.le_of_ble_eq_true rfl) dX11_init_111 (fun q_79 H hP hD hS => ?_)
  have hP : va_P (dC, dI) vwP [(h0, .inr (11, [.ref q_1, .int 0, .int (-1), .ref q_3, .ref q_21, .ref q_39, .int 0, .ref q_52, .int 0, .ref q_60, .ref q_66, .ref q_73, .null, .null, .null, .null, .null])), (q_1, .inl (cA_2, 8192, .inl (fun _ => 0))), (q_3, .inr (0, [.int 0, .int 0, .int 0, .int 0, .ref q_4, .ref q_5, .ref q_6, .ref q_7, .ref q_8, .ref q_9, .ref q_10, .ref q_11, .ref q_12, .ref q_13, .ref q_14, .ref q_15, .ref q_16, .ref q_17, .ref q_18])), (q_4, .inl (cA_19, 301, .inl (fun _ => 0))), (q_15, .inl (cA_20, 301, .inl (fun _ => 0))), (q_60, .inr (7, [.int 0, .ref q_61, .int 0, .int 0, .int 1, .int 0, .int 0, .int 0, .null, .int 0, .int 0, .int 0, .int 0, .long 0, .int 0, .int (-1), .ref q_62, .ref q_63])), (q_62, .inl (cA_64, 60, .inl (fun _ => 0))), (q_63, .inl (cA_65, 60, .inl (fun _ => 0))), (q_79, .inr (3, [.null, .null, .int 0, .null, .null]))] H := hP
  have hD : va_D A [(h0, .inr (11, [.ref q_1, .int 0, .int (-1), .ref q_3, .ref q_21, .ref q_39, .int 0, .ref q_52, .int 0, .ref q_60, .ref q_66, .ref q_73, .null, .null, .null, .null, .null])), (q_1, .inl (cA_2, 8192, .inl (fun _ => 0))), (q_3, .inr (0, [.int 0, .int 0, .int 0, .int 0, .ref q_4, .ref q_5, .ref q_6, .ref q_7, .ref q_8, .ref q_9, .ref q_10, .ref q_11, .ref q_12, .ref q_13, .ref q_14, .ref q_15, .ref q_16, .ref q_17, .ref q_18])), (q_4, .inl (cA_19, 301, .inl (fun _ => 0))), (q_15, .inl (cA_20, 301, .inl (fun _ => 0))), (q_60, .inr (7, [.int 0, .ref q_61, .int 0, .int 0, .int 1, .int 0, .int 0, .int 0, .null, .int 0, .int 0, .int 0, .int 0, .long 0, .int 0, .int (-1), .ref q_62, .ref q_63])), (q_62, .inl (cA_64, 60, .inl (fun _ => 0))), (q_63, .inl (cA_65, 60, .inl (fun _ => 0))), (q_79, .inr (3, [.null, .null, .int 0, .null, .null]))] := hD
  refine W.widen (k := 72) (n := 87294) (Nat.le_of_ble_eq_true rfl) (Nat.le_of_ble_eq_true rfl) ?_
  refine lv_dup hx hb dX11_init_114 rfl ?_
  have hPc := hP.sub (ws' := [(q_79, .inr (3, [.null, .null, .int 0, .null, .null]))]) [8] rfl
  have hDc := hD.sub (ws' := [(q_79, .inr (3, [.null, .null, .int 0, .null, .null]))]) [8] (by decide) rfl
  have hKc := hK.sub (tys' := []) [] rfl
  have hFc := va_free (wc := [(q_79, .inr (3, [.null, .null, .int 0, .null, .null]))]) hD hS hA [8] rfl
  refine va_callv (va_runIN (As := []) (rest := [.ref q_79, .ref h0]) ⟨hx, hb, hml, hown, hts⟩ (c_X3_init l dC dI q_79 H.size) ⟨va_cnB 0 hts (goodIn_sub mem_X11_init_14 gw_X3_init) rfl rfl rfl hp6 (ow (k := 42) rfl) (by decide +kernel) ⟨(Nat.le_of_ble_eq_true rfl), (Nat.le_of_ble_eq_true rfl)⟩, rfl, (ow (k := 43) rfl)⟩ ⟨fun a U g mk q => by obtain ⟨q0, q1, qP, qK, qD⟩ := q; exact ⟨q0, q1, qP, va_K.moved (u := U) (U := U.calling g mk a) (Vm.Alike.refl U.vm) qK, qD⟩, fun U hU hW => ⟨rfl, by rw [hU], by rw [hU]; exact hPc, va_K.moved hW.alike hKc, hDc.weaken (fun _ _ _ _ => trivial)⟩⟩ rfl rfl hl.1 rfl (lv_room (Nat.le_of_ble_eq_true rfl)) dX11_init_115 ⟨(Nat.le_of_ble_eq_true rfl), (Nat.le_of_ble_eq_true rfl)⟩) hS (fun q _ h => hFc q h) hFc (fun  u t H1 locs ht hvm hw hB hz1 hk1 hS => ?_)
  obtain ⟨q_80, q_81, q_82, q_83, hP1, hK1, hD1⟩ := hB
  rw [ht] at hP1
  have hK1 := va_K.moved hvm.symm hK1
  obtain ⟨hP, hD⟩ := va_join (wr := [(h0, .inr (11, [.ref q_1, .int 0, .int (-1), .ref q_3, .ref q_21, .ref q_39, .int 0, .ref q_52, .int 0, .ref q_60, .ref q_66, .ref q_73, .null, .null, .null, .null, .null])), (q_1, .inl (cA_2, 8192, .inl (fun _ => 0))), (q_3, .inr (0, [.int 0, .int 0, .int 0, .int 0, .ref q_4, .ref q_5, .ref q_6, .ref q_7, .ref q_8, .ref q_9, .ref q_10, .ref q_11, .ref q_12, .ref q_13, .ref q_14, .ref q_15, .ref q_16, .ref q_17, .ref q_18])), (q_4, .inl (cA_19, 301, .inl (fun _ => 0))), (q_15, .inl (cA_20, 301, .inl (fun _ => 0))), (q_60, .inr (7, [.int 0, .ref q_61, .int 0, .int 0, .int 1, .int 0, .int 0, .int 0, .null, .int 0, .int 0, .int 0, .int 0, .long 0, .int 0, .int (-1), .ref q_62, .ref q_63])), (q_62, .inl (cA_64, 60, .inl (fun _ => 0))), (q_63, .inl (cA_65, 60, .inl (fun _ => 0)))]) (w1 := [(q_79, .inr (3, [.ref q_80, .ref q_81, .int 0, .ref q_82, .ref q_83]))]) hP hD [8] [0, 1, 2, 3, 4, 5, 6, 7] rfl rfl (by decide) (by decide) hk1 hFc hP1 hD1
  have hK := (hK.sub (tys' := [(cA_2, .byte), (cA_19, .int), (cA_20, .int), (cA_64, .boolean), (cA_65, .int)]) [0, 1, 2, 3, 4] rfl).app hK1
  generalize H1 = H at hP hS ⊢
  have hP : va_P (dC, dI) vwP [(h0, .inr (11, [.ref q_1, .int 0, .int (-1), .ref q_3, .ref q_21, .ref q_39, .int 0, .ref q_52, .int 0, .ref q_60, .ref q_66, .ref q_73, .null, .null, .null, .null, .null])), (q_1, .inl (cA_2, 8192, .inl (fun _ => 0))), (q_3, .inr (0, [.int 0, .int 0, .int 0, .int 0, .ref q_4, .ref q_5, .ref q_6, .ref q_7, .ref q_8, .ref q_9, .ref q_10, .ref q_11, .ref q_12, .ref q_13, .ref q_14, .ref q_15, .ref q_16, .ref q_17, .ref q_18])), (q_4, .inl (cA_19, 301, .inl (fun _ => 0))), (q_15, .inl (cA_20, 301, .inl (fun _ => 0))), (q_60, .inr (7, [.int 0, .ref q_61, .int 0, .int 0, .int 1, .int 0, .int 0, .int 0, .null, .int 0, .int 0, .int 0, .int 0, .long 0, .int 0, .int (-1), .ref q_62, .ref q_63])), (q_62, .inl (cA_64, 60, .inl (fun _ => 0))), (q_63, .inl (cA_65, 60, .inl (fun _ => 0))), (q_79, .inr (3, [.ref q_80, .ref q_81, .int 0, .ref q_82, .ref q_83]))] H := hP
  have hD : va_D A [(h0, .inr (11, [.ref q_1, .int 0, .int (-1), .ref q_3, .ref q_21, .ref q_39, .int 0, .ref q_52, .int 0, .ref q_60, .ref q_66, .ref q_73, .null, .null, .null, .null, .null])), (q_1, .inl (cA_2, 8192, .inl (fun _ => 0))), (q_3, .inr (0, [.int 0, .int 0, .int 0, .int 0, .ref q_4, .ref q_5, .ref q_6, .ref q_7, .ref q_8, .ref q_9, .ref q_10, .ref q_11, .ref q_12, .ref q_13, .ref q_14, .ref q_15, .ref q_16, .ref q_17, .ref q_18])), (q_4, .inl (cA_19, 301, .inl (fun _ => 0))), (q_15, .inl (cA_20, 301, .inl (fun _ => 0))), (q_60, .inr (7, [.int 0, .ref q_61, .int 0, .int 0, .int 1, .int 0, .int 0, .int 0, .null, .int 0, .int 0, .int 0, .int 0, .long 0, .int 0, .int (-1), .ref q_62, .ref q_63])), (q_62, .inl (cA_64, 60, .inl (fun _ => 0))), (q_63, .inl (cA_65, 60, .inl (fun _ => 0))), (q_79, .inr (3, [.ref q_80, .ref q_81, .int 0, .ref q_82, .ref q_83]))] := hD
  have hK : va_K (dC, dI) vwP [(cA_2, .byte), (cA_19, .int), (cA_20, .int), (cA_64, .boolean), (cA_65, .int)] s := hK
  refine W.widen (k := 76) (n := 90918) (Nat.le_of_ble_eq_true rfl) (Nat.le_of_ble_eq_true rfl) ?_
  refine va_putF (D := (dC, dI)) (ci := 11) (v := .ref q_79) (ty := .object "SsaForge$Likes") (C := RX11) (T := TX11) (N := 17) hx hb hts mem_X11_init_0 tyX11 tyX11_ok nmX11 hown hK hP hD hS 0 rfl rfl 12 (by decide) (ow (k := 44) rfl) (fun _ h9 => h9) rfl hin rfl (by decide +kernel) rfl rfl (Nat.le_of_ble_eq_true rfl) dX11_init_118 (fun H locs hP hD hS => ?_)
  have hP : va_P (dC, dI) vwP [(h0, .inr (11, [.ref q_1, .int 0, .int (-1), .ref q_3, .ref q_21, .ref q_39, .int 0, .ref q_52, .int 0, .ref q_60, .ref q_66, .ref q_73, .ref q_79, .null, .null, .null, .null])), (q_1, .inl (cA_2, 8192, .inl (fun _ => 0))), (q_3, .inr (0, [.int 0, .int 0, .int 0, .int 0, .ref q_4, .ref q_5, .ref q_6, .ref q_7, .ref q_8, .ref q_9, .ref q_10, .ref q_11, .ref q_12, .ref q_13, .ref q_14, .ref q_15, .ref q_16, .ref q_17, .ref q_18])), (q_4, .inl (cA_19, 301, .inl (fun _ => 0))), (q_15, .inl (cA_20, 301, .inl (fun _ => 0))), (q_60, .inr (7, [.int 0, .ref q_61, .int 0, .int 0, .int 1, .int 0, .int 0, .int 0, .null, .int 0, .int 0, .int 0, .int 0, .long 0, .int 0, .int (-1), .ref q_62, .ref q_63])), (q_62, .inl (cA_64, 60, .inl (fun _ => 0))), (q_63, .inl (cA_65, 60, .inl (fun _ => 0))), (q_79, .inr (3, [.ref q_80, .ref q_81, .int 0, .ref q_82, .ref q_83]))] H := hP
  have hD : va_D A [(h0, .inr (11, [.ref q_1, .int 0, .int (-1), .ref q_3, .ref q_21, .ref q_39, .int 0, .ref q_52, .int 0, .ref q_60, .ref q_66, .ref q_73, .ref q_79, .null, .null, .null, .null])), (q_1, .inl (cA_2, 8192, .inl (fun _ => 0))), (q_3, .inr (0, [.int 0, .int 0, .int 0, .int 0, .ref q_4, .ref q_5, .ref q_6, .ref q_7, .ref q_8, .ref q_9, .ref q_10, .ref q_11, .ref q_12, .ref q_13, .ref q_14, .ref q_15, .ref q_16, .ref q_17, .ref q_18])), (q_4, .inl (cA_19, 301, .inl (fun _ => 0))), (q_15, .inl (cA_20, 301, .inl (fun _ => 0))), (q_60, .inr (7, [.int 0, .ref q_61, .int 0, .int 0, .int 1, .int 0, .int 0, .int 0, .null, .int 0, .int 0, .int 0, .int 0, .long 0, .int 0, .int (-1), .ref q_62, .ref q_63])), (q_62, .inl (cA_64, 60, .inl (fun _ => 0))), (q_63, .inl (cA_65, 60, .inl (fun _ => 0))), (q_79, .inr (3, [.ref q_80, .ref q_81, .int 0, .ref q_82, .ref q_83]))] := hD
  have hP := hP.sub (ws' := [(h0, .inr (11, [.ref q_1, .int 0, .int (-1), .ref q_3, .ref q_21, .ref q_39, .int 0, .ref q_52, .int 0, .ref q_60, .ref q_66, .ref q_73, .ref q_79, .null, .null, .null, .null])), (q_1, .inl (cA_2, 8192, .inl (fun _ => 0))), (q_3, .inr (0, [.int 0, .int 0, .int 0, .int 0, .ref q_4, .ref q_5, .ref q_6, .ref q_7, .ref q_8, .ref q_9, .ref q_10, .ref q_11, .ref q_12, .ref q_13, .ref q_14, .ref q_15, .ref q_16, .ref q_17, .ref q_18])), (q_4, .inl (cA_19, 301, .inl (fun _ => 0))), (q_15, .inl (cA_20, 301, .inl (fun _ => 0))), (q_60, .inr (7, [.int 0, .ref q_61, .int 0, .int 0, .int 1, .int 0, .int 0, .int 0, .null, .int 0, .int 0, .int 0, .int 0, .long 0, .int 0, .int (-1), .ref q_62, .ref q_63])), (q_62, .inl (cA_64, 60, .inl (fun _ => 0))), (q_63, .inl (cA_65, 60, .inl (fun _ => 0)))]) [0, 1, 2, 3, 4, 5, 6, 7] rfl
  have hD := hD.sub (ws' := [(h0, .inr (11, [.ref q_1, .int 0, .int (-1), .ref q_3, .ref q_21, .ref q_39, .int 0, .ref q_52, .int 0, .ref q_60, .ref q_66, .ref q_73, .ref q_79, .null, .null, .null, .null])), (q_1, .inl (cA_2, 8192, .inl (fun _ => 0))), (q_3, .inr (0, [.int 0, .int 0, .int 0, .int 0, .ref q_4, .ref q_5, .ref q_6, .ref q_7, .ref q_8, .ref q_9, .ref q_10, .ref q_11, .ref q_12, .ref q_13, .ref q_14, .ref q_15, .ref q_16, .ref q_17, .ref q_18])), (q_4, .inl (cA_19, 301, .inl (fun _ => 0))), (q_15, .inl (cA_20, 301, .inl (fun _ => 0))), (q_60, .inr (7, [.int 0, .ref q_61, .int 0, .int 0, .int 1, .int 0, .int 0, .int 0, .null, .int 0, .int 0, .int 0, .int 0, .long 0, .int 0, .int (-1), .ref q_62, .ref q_63])), (q_62, .inl (cA_64, 60, .inl (fun _ => 0))), (q_63, .inl (cA_65, 60, .inl (fun _ => 0)))]) [0, 1, 2, 3, 4, 5, 6, 7] (by decide) rfl
  refine lv_aload_n hx hb dX11_init_121 rfl (lv_at hl 0 rfl) ?_
  refine va_new (ci := 9) (fs := [.null, .null, .null, .null, .null, .null, .null, .int 0, .int 0]) (C := RX9) (T := TX9) (N := 9) hx hb hts mem_X11_init_15 tyX9 tyX9_ok hown (ow (k := 45) rfl) (ow (k := 46) rfl) (ow (k := 47) rfl) hK hP hD hS hA rfl (df_X9) (Nat.le_of_ble_eq_true rfl) (Nat.le_of_ble_eq_true rfl) dX11_init_122 (fun q_84 H hP hD hS => ?_)
  have hP : va_P (dC, dI) vwP [(h0, .inr (11, [.ref q_1, .int 0, .int (-1), .ref q_3, .ref q_21, .ref q_39, .int 0, .ref q_52, .int 0, .ref q_60, .ref q_66, .ref q_73, .ref q_79, .null, .null, .null, .null])), (q_1, .inl (cA_2, 8192, .inl (fun _ => 0))), (q_3, .inr (0, [.int 0, .int 0, .int 0, .int 0, .ref q_4, .ref q_5, .ref q_6, .ref q_7, .ref q_8, .ref q_9, .ref q_10, .ref q_11, .ref q_12, .ref q_13, .ref q_14, .ref q_15, .ref q_16, .ref q_17, .ref q_18])), (q_4, .inl (cA_19, 301, .inl (fun _ => 0))), (q_15, .inl (cA_20, 301, .inl (fun _ => 0))), (q_60, .inr (7, [.int 0, .ref q_61, .int 0, .int 0, .int 1, .int 0, .int 0, .int 0, .null, .int 0, .int 0, .int 0, .int 0, .long 0, .int 0, .int (-1), .ref q_62, .ref q_63])), (q_62, .inl (cA_64, 60, .inl (fun _ => 0))), (q_63, .inl (cA_65, 60, .inl (fun _ => 0))), (q_84, .inr (9, [.null, .null, .null, .null, .null, .null, .null, .int 0, .int 0]))] H := hP
  have hD : va_D A [(h0, .inr (11, [.ref q_1, .int 0, .int (-1), .ref q_3, .ref q_21, .ref q_39, .int 0, .ref q_52, .int 0, .ref q_60, .ref q_66, .ref q_73, .ref q_79, .null, .null, .null, .null])), (q_1, .inl (cA_2, 8192, .inl (fun _ => 0))), (q_3, .inr (0, [.int 0, .int 0, .int 0, .int 0, .ref q_4, .ref q_5, .ref q_6, .ref q_7, .ref q_8, .ref q_9, .ref q_10, .ref q_11, .ref q_12, .ref q_13, .ref q_14, .ref q_15, .ref q_16, .ref q_17, .ref q_18])), (q_4, .inl (cA_19, 301, .inl (fun _ => 0))), (q_15, .inl (cA_20, 301, .inl (fun _ => 0))), (q_60, .inr (7, [.int 0, .ref q_61, .int 0, .int 0, .int 1, .int 0, .int 0, .int 0, .null, .int 0, .int 0, .int 0, .int 0, .long 0, .int 0, .int (-1), .ref q_62, .ref q_63])), (q_62, .inl (cA_64, 60, .inl (fun _ => 0))), (q_63, .inl (cA_65, 60, .inl (fun _ => 0))), (q_84, .inr (9, [.null, .null, .null, .null, .null, .null, .null, .int 0, .int 0]))] := hD
  refine W.widen (k := 77) (n := 90927) (Nat.le_of_ble_eq_true rfl) (Nat.le_of_ble_eq_true rfl) ?_
  refine lv_dup hx hb dX11_init_125 rfl ?_
  have hPc := hP.sub (ws' := [(q_84, .inr (9, [.null, .null, .null, .null, .null, .null, .null, .int 0, .int 0]))]) [8] rfl
  have hDc := hD.sub (ws' := [(q_84, .inr (9, [.null, .null, .null, .null, .null, .null, .null, .int 0, .int 0]))]) [8] (by decide) rfl
  have hKc := hK.sub (tys' := []) [] rfl
  have hFc := va_free (wc := [(q_84, .inr (9, [.null, .null, .null, .null, .null, .null, .null, .int 0, .int 0]))]) hD hS hA [8] rfl
  refine va_callv (va_runIN (As := []) (rest := [.ref q_84, .ref h0]) ⟨hx, hb, hml, hown, hts⟩ (c_X9_init l dC dI q_84 H.size) ⟨va_cnB 0 hts (goodIn_sub mem_X11_init_16 gw_X9_init) rfl rfl rfl hp7 (ow (k := 47) rfl) (by decide +kernel) ⟨(Nat.le_of_ble_eq_true rfl), (Nat.le_of_ble_eq_true rfl)⟩, rfl, (ow (k := 48) rfl)⟩ ⟨fun a U g mk q => by obtain ⟨q0, q1, qP, qK, qD⟩ := q; exact ⟨q0, q1, qP, va_K.moved (u := U) (U := U.calling g mk a) (Vm.Alike.refl U.vm) qK, qD⟩, fun U hU hW => ⟨rfl, by rw [hU], by rw [hU]; exact hPc, va_K.moved hW.alike hKc, hDc.weaken (fun _ _ _ _ => trivial)⟩⟩ rfl rfl hl.1 rfl (lv_room (Nat.le_of_ble_eq_true rfl)) dX11_init_126 ⟨(Nat.le_of_ble_eq_true rfl), (Nat.le_of_ble_eq_true rfl)⟩) hS (fun q _ h => hFc q h) hFc (fun  u t H1 locs ht hvm hw hB hz1 hk1 hS => ?_)
  obtain ⟨q_85, q_86, q_87, q_88, q_89, q_90, q_91, hP1, hK1, hD1⟩ := hB
  rw [ht] at hP1
  have hK1 := va_K.moved hvm.symm hK1
  obtain ⟨hP, hD⟩ := va_join (wr := [(h0, .inr (11, [.ref q_1, .int 0, .int (-1), .ref q_3, .ref q_21, .ref q_39, .int 0, .ref q_52, .int 0, .ref q_60, .ref q_66, .ref q_73, .ref q_79, .null, .null, .null, .null])), (q_1, .inl (cA_2, 8192, .inl (fun _ => 0))), (q_3, .inr (0, [.int 0, .int 0, .int 0, .int 0, .ref q_4, .ref q_5, .ref q_6, .ref q_7, .ref q_8, .ref q_9, .ref q_10, .ref q_11, .ref q_12, .ref q_13, .ref q_14, .ref q_15, .ref q_16, .ref q_17, .ref q_18])), (q_4, .inl (cA_19, 301, .inl (fun _ => 0))), (q_15, .inl (cA_20, 301, .inl (fun _ => 0))), (q_60, .inr (7, [.int 0, .ref q_61, .int 0, .int 0, .int 1, .int 0, .int 0, .int 0, .null, .int 0, .int 0, .int 0, .int 0, .long 0, .int 0, .int (-1), .ref q_62, .ref q_63])), (q_62, .inl (cA_64, 60, .inl (fun _ => 0))), (q_63, .inl (cA_65, 60, .inl (fun _ => 0)))]) (w1 := [(q_84, .inr (9, [.ref q_85, .ref q_86, .ref q_87, .ref q_88, .ref q_89, .ref q_90, .ref q_91, .int 0, .int 0]))]) hP hD [8] [0, 1, 2, 3, 4, 5, 6, 7] rfl rfl (by decide) (by decide) hk1 hFc hP1 hD1
  have hK := (hK.sub (tys' := [(cA_2, .byte), (cA_19, .int), (cA_20, .int), (cA_64, .boolean), (cA_65, .int)]) [0, 1, 2, 3, 4] rfl).app hK1
  generalize H1 = H at hP hS ⊢
  have hP : va_P (dC, dI) vwP [(h0, .inr (11, [.ref q_1, .int 0, .int (-1), .ref q_3, .ref q_21, .ref q_39, .int 0, .ref q_52, .int 0, .ref q_60, .ref q_66, .ref q_73, .ref q_79, .null, .null, .null, .null])), (q_1, .inl (cA_2, 8192, .inl (fun _ => 0))), (q_3, .inr (0, [.int 0, .int 0, .int 0, .int 0, .ref q_4, .ref q_5, .ref q_6, .ref q_7, .ref q_8, .ref q_9, .ref q_10, .ref q_11, .ref q_12, .ref q_13, .ref q_14, .ref q_15, .ref q_16, .ref q_17, .ref q_18])), (q_4, .inl (cA_19, 301, .inl (fun _ => 0))), (q_15, .inl (cA_20, 301, .inl (fun _ => 0))), (q_60, .inr (7, [.int 0, .ref q_61, .int 0, .int 0, .int 1, .int 0, .int 0, .int 0, .null, .int 0, .int 0, .int 0, .int 0, .long 0, .int 0, .int (-1), .ref q_62, .ref q_63])), (q_62, .inl (cA_64, 60, .inl (fun _ => 0))), (q_63, .inl (cA_65, 60, .inl (fun _ => 0))), (q_84, .inr (9, [.ref q_85, .ref q_86, .ref q_87, .ref q_88, .ref q_89, .ref q_90, .ref q_91, .int 0, .int 0]))] H := hP
  have hD : va_D A [(h0, .inr (11, [.ref q_1, .int 0, .int (-1), .ref q_3, .ref q_21, .ref q_39, .int 0, .ref q_52, .int 0, .ref q_60, .ref q_66, .ref q_73, .ref q_79, .null, .null, .null, .null])), (q_1, .inl (cA_2, 8192, .inl (fun _ => 0))), (q_3, .inr (0, [.int 0, .int 0, .int 0, .int 0, .ref q_4, .ref q_5, .ref q_6, .ref q_7, .ref q_8, .ref q_9, .ref q_10, .ref q_11, .ref q_12, .ref q_13, .ref q_14, .ref q_15, .ref q_16, .ref q_17, .ref q_18])), (q_4, .inl (cA_19, 301, .inl (fun _ => 0))), (q_15, .inl (cA_20, 301, .inl (fun _ => 0))), (q_60, .inr (7, [.int 0, .ref q_61, .int 0, .int 0, .int 1, .int 0, .int 0, .int 0, .null, .int 0, .int 0, .int 0, .int 0, .long 0, .int 0, .int (-1), .ref q_62, .ref q_63])), (q_62, .inl (cA_64, 60, .inl (fun _ => 0))), (q_63, .inl (cA_65, 60, .inl (fun _ => 0))), (q_84, .inr (9, [.ref q_85, .ref q_86, .ref q_87, .ref q_88, .ref q_89, .ref q_90, .ref q_91, .int 0, .int 0]))] := hD
  have hK : va_K (dC, dI) vwP [(cA_2, .byte), (cA_19, .int), (cA_20, .int), (cA_64, .boolean), (cA_65, .int)] s := hK
  refine W.widen (k := 84) (n := 94475) (Nat.le_of_ble_eq_true rfl) (Nat.le_of_ble_eq_true rfl) ?_
  refine va_putF (D := (dC, dI)) (ci := 11) (v := .ref q_84) (ty := .object "SsaForge$Tidier") (C := RX11) (T := TX11) (N := 17) hx hb hts mem_X11_init_0 tyX11 tyX11_ok nmX11 hown hK hP hD hS 0 rfl rfl 13 (by decide) (ow (k := 49) rfl) (fun _ h9 => h9) rfl hin rfl (by decide +kernel) rfl rfl (Nat.le_of_ble_eq_true rfl) dX11_init_129 (fun H locs hP hD hS => ?_)
  have hP : va_P (dC, dI) vwP [(h0, .inr (11, [.ref q_1, .int 0, .int (-1), .ref q_3, .ref q_21, .ref q_39, .int 0, .ref q_52, .int 0, .ref q_60, .ref q_66, .ref q_73, .ref q_79, .ref q_84, .null, .null, .null])), (q_1, .inl (cA_2, 8192, .inl (fun _ => 0))), (q_3, .inr (0, [.int 0, .int 0, .int 0, .int 0, .ref q_4, .ref q_5, .ref q_6, .ref q_7, .ref q_8, .ref q_9, .ref q_10, .ref q_11, .ref q_12, .ref q_13, .ref q_14, .ref q_15, .ref q_16, .ref q_17, .ref q_18])), (q_4, .inl (cA_19, 301, .inl (fun _ => 0))), (q_15, .inl (cA_20, 301, .inl (fun _ => 0))), (q_60, .inr (7, [.int 0, .ref q_61, .int 0, .int 0, .int 1, .int 0, .int 0, .int 0, .null, .int 0, .int 0, .int 0, .int 0, .long 0, .int 0, .int (-1), .ref q_62, .ref q_63])), (q_62, .inl (cA_64, 60, .inl (fun _ => 0))), (q_63, .inl (cA_65, 60, .inl (fun _ => 0))), (q_84, .inr (9, [.ref q_85, .ref q_86, .ref q_87, .ref q_88, .ref q_89, .ref q_90, .ref q_91, .int 0, .int 0]))] H := hP
  have hD : va_D A [(h0, .inr (11, [.ref q_1, .int 0, .int (-1), .ref q_3, .ref q_21, .ref q_39, .int 0, .ref q_52, .int 0, .ref q_60, .ref q_66, .ref q_73, .ref q_79, .ref q_84, .null, .null, .null])), (q_1, .inl (cA_2, 8192, .inl (fun _ => 0))), (q_3, .inr (0, [.int 0, .int 0, .int 0, .int 0, .ref q_4, .ref q_5, .ref q_6, .ref q_7, .ref q_8, .ref q_9, .ref q_10, .ref q_11, .ref q_12, .ref q_13, .ref q_14, .ref q_15, .ref q_16, .ref q_17, .ref q_18])), (q_4, .inl (cA_19, 301, .inl (fun _ => 0))), (q_15, .inl (cA_20, 301, .inl (fun _ => 0))), (q_60, .inr (7, [.int 0, .ref q_61, .int 0, .int 0, .int 1, .int 0, .int 0, .int 0, .null, .int 0, .int 0, .int 0, .int 0, .long 0, .int 0, .int (-1), .ref q_62, .ref q_63])), (q_62, .inl (cA_64, 60, .inl (fun _ => 0))), (q_63, .inl (cA_65, 60, .inl (fun _ => 0))), (q_84, .inr (9, [.ref q_85, .ref q_86, .ref q_87, .ref q_88, .ref q_89, .ref q_90, .ref q_91, .int 0, .int 0]))] := hD
  have hP := hP.sub (ws' := [(h0, .inr (11, [.ref q_1, .int 0, .int (-1), .ref q_3, .ref q_21, .ref q_39, .int 0, .ref q_52, .int 0, .ref q_60, .ref q_66, .ref q_73, .ref q_79, .ref q_84, .null, .null, .null])), (q_1, .inl (cA_2, 8192, .inl (fun _ => 0))), (q_3, .inr (0, [.int 0, .int 0, .int 0, .int 0, .ref q_4, .ref q_5, .ref q_6, .ref q_7, .ref q_8, .ref q_9, .ref q_10, .ref q_11, .ref q_12, .ref q_13, .ref q_14, .ref q_15, .ref q_16, .ref q_17, .ref q_18])), (q_4, .inl (cA_19, 301, .inl (fun _ => 0))), (q_15, .inl (cA_20, 301, .inl (fun _ => 0))), (q_60, .inr (7, [.int 0, .ref q_61, .int 0, .int 0, .int 1, .int 0, .int 0, .int 0, .null, .int 0, .int 0, .int 0, .int 0, .long 0, .int 0, .int (-1), .ref q_62, .ref q_63])), (q_62, .inl (cA_64, 60, .inl (fun _ => 0))), (q_63, .inl (cA_65, 60, .inl (fun _ => 0)))]) [0, 1, 2, 3, 4, 5, 6, 7] rfl
  have hD := hD.sub (ws' := [(h0, .inr (11, [.ref q_1, .int 0, .int (-1), .ref q_3, .ref q_21, .ref q_39, .int 0, .ref q_52, .int 0, .ref q_60, .ref q_66, .ref q_73, .ref q_79, .ref q_84, .null, .null, .null])), (q_1, .inl (cA_2, 8192, .inl (fun _ => 0))), (q_3, .inr (0, [.int 0, .int 0, .int 0, .int 0, .ref q_4, .ref q_5, .ref q_6, .ref q_7, .ref q_8, .ref q_9, .ref q_10, .ref q_11, .ref q_12, .ref q_13, .ref q_14, .ref q_15, .ref q_16, .ref q_17, .ref q_18])), (q_4, .inl (cA_19, 301, .inl (fun _ => 0))), (q_15, .inl (cA_20, 301, .inl (fun _ => 0))), (q_60, .inr (7, [.int 0, .ref q_61, .int 0, .int 0, .int 1, .int 0, .int 0, .int 0, .null, .int 0, .int 0, .int 0, .int 0, .long 0, .int 0, .int (-1), .ref q_62, .ref q_63])), (q_62, .inl (cA_64, 60, .inl (fun _ => 0))), (q_63, .inl (cA_65, 60, .inl (fun _ => 0)))]) [0, 1, 2, 3, 4, 5, 6, 7] (by decide) rfl
  refine lv_aload_n hx hb dX11_init_132 rfl (lv_at hl 0 rfl) ?_
  refine va_new (ci := 10) (fs := [.null, .null, .null, .null, .int 0, .int 0, .int 0, .null, .null, .null, .null, .null, .int 0, .int 0]) (C := RX10) (T := TX10) (N := 14) hx hb hts mem_X11_init_17 tyX10 tyX10_ok hown (ow (k := 50) rfl) (ow (k := 51) rfl) (ow (k := 52) rfl) hK hP hD hS hA rfl (df_X10) (Nat.le_of_ble_eq_true rfl) (Nat.le_of_ble_eq_true rfl) dX11_init_133 (fun q_92 H hP hD hS => ?_)
  have hP : va_P (dC, dI) vwP [(h0, .inr (11, [.ref q_1, .int 0, .int (-1), .ref q_3, .ref q_21, .ref q_39, .int 0, .ref q_52, .int 0, .ref q_60, .ref q_66, .ref q_73, .ref q_79, .ref q_84, .null, .null, .null])), (q_1, .inl (cA_2, 8192, .inl (fun _ => 0))), (q_3, .inr (0, [.int 0, .int 0, .int 0, .int 0, .ref q_4, .ref q_5, .ref q_6, .ref q_7, .ref q_8, .ref q_9, .ref q_10, .ref q_11, .ref q_12, .ref q_13, .ref q_14, .ref q_15, .ref q_16, .ref q_17, .ref q_18])), (q_4, .inl (cA_19, 301, .inl (fun _ => 0))), (q_15, .inl (cA_20, 301, .inl (fun _ => 0))), (q_60, .inr (7, [.int 0, .ref q_61, .int 0, .int 0, .int 1, .int 0, .int 0, .int 0, .null, .int 0, .int 0, .int 0, .int 0, .long 0, .int 0, .int (-1), .ref q_62, .ref q_63])), (q_62, .inl (cA_64, 60, .inl (fun _ => 0))), (q_63, .inl (cA_65, 60, .inl (fun _ => 0))), (q_92, .inr (10, [.null, .null, .null, .null, .int 0, .int 0, .int 0, .null, .null, .null, .null, .null, .int 0, .int 0]))] H := hP
  have hD : va_D A [(h0, .inr (11, [.ref q_1, .int 0, .int (-1), .ref q_3, .ref q_21, .ref q_39, .int 0, .ref q_52, .int 0, .ref q_60, .ref q_66, .ref q_73, .ref q_79, .ref q_84, .null, .null, .null])), (q_1, .inl (cA_2, 8192, .inl (fun _ => 0))), (q_3, .inr (0, [.int 0, .int 0, .int 0, .int 0, .ref q_4, .ref q_5, .ref q_6, .ref q_7, .ref q_8, .ref q_9, .ref q_10, .ref q_11, .ref q_12, .ref q_13, .ref q_14, .ref q_15, .ref q_16, .ref q_17, .ref q_18])), (q_4, .inl (cA_19, 301, .inl (fun _ => 0))), (q_15, .inl (cA_20, 301, .inl (fun _ => 0))), (q_60, .inr (7, [.int 0, .ref q_61, .int 0, .int 0, .int 1, .int 0, .int 0, .int 0, .null, .int 0, .int 0, .int 0, .int 0, .long 0, .int 0, .int (-1), .ref q_62, .ref q_63])), (q_62, .inl (cA_64, 60, .inl (fun _ => 0))), (q_63, .inl (cA_65, 60, .inl (fun _ => 0))), (q_92, .inr (10, [.null, .null, .null, .null, .int 0, .int 0, .int 0, .null, .null, .null, .null, .null, .int 0, .int 0]))] := hD
  refine W.widen (k := 85) (n := 94489) (Nat.le_of_ble_eq_true rfl) (Nat.le_of_ble_eq_true rfl) ?_
  refine lv_dup hx hb dX11_init_136 rfl ?_
  have hPc := hP.sub (ws' := [(q_92, .inr (10, [.null, .null, .null, .null, .int 0, .int 0, .int 0, .null, .null, .null, .null, .null, .int 0, .int 0]))]) [8] rfl
  have hDc := hD.sub (ws' := [(q_92, .inr (10, [.null, .null, .null, .null, .int 0, .int 0, .int 0, .null, .null, .null, .null, .null, .int 0, .int 0]))]) [8] (by decide) rfl
  have hKc := hK.sub (tys' := []) [] rfl
  have hFc := va_free (wc := [(q_92, .inr (10, [.null, .null, .null, .null, .int 0, .int 0, .int 0, .null, .null, .null, .null, .null, .int 0, .int 0]))]) hD hS hA [8] rfl
  refine va_callv (va_runIN (As := []) (rest := [.ref q_92, .ref h0]) ⟨hx, hb, hml, hown, hts⟩ (c_X10_init l dC dI q_92 H.size) ⟨va_cnB 0 hts (goodIn_sub mem_X11_init_18 gw_X10_init) rfl rfl rfl hp8 (ow (k := 52) rfl) (by decide +kernel) ⟨(Nat.le_of_ble_eq_true rfl), (Nat.le_of_ble_eq_true rfl)⟩, rfl, (ow (k := 53) rfl)⟩ ⟨fun a U g mk q => by obtain ⟨q0, q1, qP, qK, qD⟩ := q; exact ⟨q0, q1, qP, va_K.moved (u := U) (U := U.calling g mk a) (Vm.Alike.refl U.vm) qK, qD⟩, fun U hU hW => ⟨rfl, by rw [hU], by rw [hU]; exact hPc, va_K.moved hW.alike hKc, hDc.weaken (fun _ _ _ _ => trivial)⟩⟩ rfl rfl hl.1 rfl (lv_room (Nat.le_of_ble_eq_true rfl)) dX11_init_137 ⟨(Nat.le_of_ble_eq_true rfl), (Nat.le_of_ble_eq_true rfl)⟩) hS (fun q _ h => hFc q h) hFc (fun  u t H1 locs ht hvm hw hB hz1 hk1 hS => ?_)
  obtain ⟨q_93, q_94, q_95, q_96, q_97, q_98, q_99, q_100, q_101, hP1, hK1, hD1⟩ := hB
  rw [ht] at hP1
  have hK1 := va_K.moved hvm.symm hK1
  obtain ⟨hP, hD⟩ := va_join (wr := [(h0, .inr (11, [.ref q_1, .int 0, .int (-1), .ref q_3, .ref q_21, .ref q_39, .int 0, .ref q_52, .int 0, .ref q_60, .ref q_66, .ref q_73, .ref q_79, .ref q_84, .null, .null, .null])), (q_1, .inl (cA_2, 8192, .inl (fun _ => 0))), (q_3, .inr (0, [.int 0, .int 0, .int 0, .int 0, .ref q_4, .ref q_5, .ref q_6, .ref q_7, .ref q_8, .ref q_9, .ref q_10, .ref q_11, .ref q_12, .ref q_13, .ref q_14, .ref q_15, .ref q_16, .ref q_17, .ref q_18])), (q_4, .inl (cA_19, 301, .inl (fun _ => 0))), (q_15, .inl (cA_20, 301, .inl (fun _ => 0))), (q_60, .inr (7, [.int 0, .ref q_61, .int 0, .int 0, .int 1, .int 0, .int 0, .int 0, .null, .int 0, .int 0, .int 0, .int 0, .long 0, .int 0, .int (-1), .ref q_62, .ref q_63])), (q_62, .inl (cA_64, 60, .inl (fun _ => 0))), (q_63, .inl (cA_65, 60, .inl (fun _ => 0)))]) (w1 := [(q_92, .inr (10, [.ref q_93, .ref q_94, .ref q_95, .ref q_96, .int 0, .int 0, .int 0, .ref q_97, .ref q_98, .ref q_99, .ref q_100, .ref q_101, .int 0, .int 0]))]) hP hD [8] [0, 1, 2, 3, 4, 5, 6, 7] rfl rfl (by decide) (by decide) hk1 hFc hP1 hD1
  have hK := (hK.sub (tys' := [(cA_2, .byte), (cA_19, .int), (cA_20, .int), (cA_64, .boolean), (cA_65, .int)]) [0, 1, 2, 3, 4] rfl).app hK1
  generalize H1 = H at hP hS ⊢
  have hP : va_P (dC, dI) vwP [(h0, .inr (11, [.ref q_1, .int 0, .int (-1), .ref q_3, .ref q_21, .ref q_39, .int 0, .ref q_52, .int 0, .ref q_60, .ref q_66, .ref q_73, .ref q_79, .ref q_84, .null, .null, .null])), (q_1, .inl (cA_2, 8192, .inl (fun _ => 0))), (q_3, .inr (0, [.int 0, .int 0, .int 0, .int 0, .ref q_4, .ref q_5, .ref q_6, .ref q_7, .ref q_8, .ref q_9, .ref q_10, .ref q_11, .ref q_12, .ref q_13, .ref q_14, .ref q_15, .ref q_16, .ref q_17, .ref q_18])), (q_4, .inl (cA_19, 301, .inl (fun _ => 0))), (q_15, .inl (cA_20, 301, .inl (fun _ => 0))), (q_60, .inr (7, [.int 0, .ref q_61, .int 0, .int 0, .int 1, .int 0, .int 0, .int 0, .null, .int 0, .int 0, .int 0, .int 0, .long 0, .int 0, .int (-1), .ref q_62, .ref q_63])), (q_62, .inl (cA_64, 60, .inl (fun _ => 0))), (q_63, .inl (cA_65, 60, .inl (fun _ => 0))), (q_92, .inr (10, [.ref q_93, .ref q_94, .ref q_95, .ref q_96, .int 0, .int 0, .int 0, .ref q_97, .ref q_98, .ref q_99, .ref q_100, .ref q_101, .int 0, .int 0]))] H := hP
  have hD : va_D A [(h0, .inr (11, [.ref q_1, .int 0, .int (-1), .ref q_3, .ref q_21, .ref q_39, .int 0, .ref q_52, .int 0, .ref q_60, .ref q_66, .ref q_73, .ref q_79, .ref q_84, .null, .null, .null])), (q_1, .inl (cA_2, 8192, .inl (fun _ => 0))), (q_3, .inr (0, [.int 0, .int 0, .int 0, .int 0, .ref q_4, .ref q_5, .ref q_6, .ref q_7, .ref q_8, .ref q_9, .ref q_10, .ref q_11, .ref q_12, .ref q_13, .ref q_14, .ref q_15, .ref q_16, .ref q_17, .ref q_18])), (q_4, .inl (cA_19, 301, .inl (fun _ => 0))), (q_15, .inl (cA_20, 301, .inl (fun _ => 0))), (q_60, .inr (7, [.int 0, .ref q_61, .int 0, .int 0, .int 1, .int 0, .int 0, .int 0, .null, .int 0, .int 0, .int 0, .int 0, .long 0, .int 0, .int (-1), .ref q_62, .ref q_63])), (q_62, .inl (cA_64, 60, .inl (fun _ => 0))), (q_63, .inl (cA_65, 60, .inl (fun _ => 0))), (q_92, .inr (10, [.ref q_93, .ref q_94, .ref q_95, .ref q_96, .int 0, .int 0, .int 0, .ref q_97, .ref q_98, .ref q_99, .ref q_100, .ref q_101, .int 0, .int 0]))] := hD
  have hK : va_K (dC, dI) vwP [(cA_2, .byte), (cA_19, .int), (cA_20, .int), (cA_64, .boolean), (cA_65, .int)] s := hK
  refine W.widen (k := 94) (n := 103601) (Nat.le_of_ble_eq_true rfl) (Nat.le_of_ble_eq_true rfl) ?_
  refine va_putF (D := (dC, dI)) (ci := 11) (v := .ref q_92) (ty := .object "SsaForge$WayOut") (C := RX11) (T := TX11) (N := 17) hx hb hts mem_X11_init_0 tyX11 tyX11_ok nmX11 hown hK hP hD hS 0 rfl rfl 14 (by decide) (ow (k := 54) rfl) (fun _ h9 => h9) rfl hin rfl (by decide +kernel) rfl rfl (Nat.le_of_ble_eq_true rfl) dX11_init_140 (fun H locs hP hD hS => ?_)
  have hP : va_P (dC, dI) vwP [(h0, .inr (11, [.ref q_1, .int 0, .int (-1), .ref q_3, .ref q_21, .ref q_39, .int 0, .ref q_52, .int 0, .ref q_60, .ref q_66, .ref q_73, .ref q_79, .ref q_84, .ref q_92, .null, .null])), (q_1, .inl (cA_2, 8192, .inl (fun _ => 0))), (q_3, .inr (0, [.int 0, .int 0, .int 0, .int 0, .ref q_4, .ref q_5, .ref q_6, .ref q_7, .ref q_8, .ref q_9, .ref q_10, .ref q_11, .ref q_12, .ref q_13, .ref q_14, .ref q_15, .ref q_16, .ref q_17, .ref q_18])), (q_4, .inl (cA_19, 301, .inl (fun _ => 0))), (q_15, .inl (cA_20, 301, .inl (fun _ => 0))), (q_60, .inr (7, [.int 0, .ref q_61, .int 0, .int 0, .int 1, .int 0, .int 0, .int 0, .null, .int 0, .int 0, .int 0, .int 0, .long 0, .int 0, .int (-1), .ref q_62, .ref q_63])), (q_62, .inl (cA_64, 60, .inl (fun _ => 0))), (q_63, .inl (cA_65, 60, .inl (fun _ => 0))), (q_92, .inr (10, [.ref q_93, .ref q_94, .ref q_95, .ref q_96, .int 0, .int 0, .int 0, .ref q_97, .ref q_98, .ref q_99, .ref q_100, .ref q_101, .int 0, .int 0]))] H := hP
  have hD : va_D A [(h0, .inr (11, [.ref q_1, .int 0, .int (-1), .ref q_3, .ref q_21, .ref q_39, .int 0, .ref q_52, .int 0, .ref q_60, .ref q_66, .ref q_73, .ref q_79, .ref q_84, .ref q_92, .null, .null])), (q_1, .inl (cA_2, 8192, .inl (fun _ => 0))), (q_3, .inr (0, [.int 0, .int 0, .int 0, .int 0, .ref q_4, .ref q_5, .ref q_6, .ref q_7, .ref q_8, .ref q_9, .ref q_10, .ref q_11, .ref q_12, .ref q_13, .ref q_14, .ref q_15, .ref q_16, .ref q_17, .ref q_18])), (q_4, .inl (cA_19, 301, .inl (fun _ => 0))), (q_15, .inl (cA_20, 301, .inl (fun _ => 0))), (q_60, .inr (7, [.int 0, .ref q_61, .int 0, .int 0, .int 1, .int 0, .int 0, .int 0, .null, .int 0, .int 0, .int 0, .int 0, .long 0, .int 0, .int (-1), .ref q_62, .ref q_63])), (q_62, .inl (cA_64, 60, .inl (fun _ => 0))), (q_63, .inl (cA_65, 60, .inl (fun _ => 0))), (q_92, .inr (10, [.ref q_93, .ref q_94, .ref q_95, .ref q_96, .int 0, .int 0, .int 0, .ref q_97, .ref q_98, .ref q_99, .ref q_100, .ref q_101, .int 0, .int 0]))] := hD
  have hP := hP.sub (ws' := [(h0, .inr (11, [.ref q_1, .int 0, .int (-1), .ref q_3, .ref q_21, .ref q_39, .int 0, .ref q_52, .int 0, .ref q_60, .ref q_66, .ref q_73, .ref q_79, .ref q_84, .ref q_92, .null, .null])), (q_1, .inl (cA_2, 8192, .inl (fun _ => 0))), (q_3, .inr (0, [.int 0, .int 0, .int 0, .int 0, .ref q_4, .ref q_5, .ref q_6, .ref q_7, .ref q_8, .ref q_9, .ref q_10, .ref q_11, .ref q_12, .ref q_13, .ref q_14, .ref q_15, .ref q_16, .ref q_17, .ref q_18])), (q_4, .inl (cA_19, 301, .inl (fun _ => 0))), (q_15, .inl (cA_20, 301, .inl (fun _ => 0))), (q_60, .inr (7, [.int 0, .ref q_61, .int 0, .int 0, .int 1, .int 0, .int 0, .int 0, .null, .int 0, .int 0, .int 0, .int 0, .long 0, .int 0, .int (-1), .ref q_62, .ref q_63])), (q_62, .inl (cA_64, 60, .inl (fun _ => 0))), (q_63, .inl (cA_65, 60, .inl (fun _ => 0)))]) [0, 1, 2, 3, 4, 5, 6, 7] rfl
  have hD := hD.sub (ws' := [(h0, .inr (11, [.ref q_1, .int 0, .int (-1), .ref q_3, .ref q_21, .ref q_39, .int 0, .ref q_52, .int 0, .ref q_60, .ref q_66, .ref q_73, .ref q_79, .ref q_84, .ref q_92, .null, .null])), (q_1, .inl (cA_2, 8192, .inl (fun _ => 0))), (q_3, .inr (0, [.int 0, .int 0, .int 0, .int 0, .ref q_4, .ref q_5, .ref q_6, .ref q_7, .ref q_8, .ref q_9, .ref q_10, .ref q_11, .ref q_12, .ref q_13, .ref q_14, .ref q_15, .ref q_16, .ref q_17, .ref q_18])), (q_4, .inl (cA_19, 301, .inl (fun _ => 0))), (q_15, .inl (cA_20, 301, .inl (fun _ => 0))), (q_60, .inr (7, [.int 0, .ref q_61, .int 0, .int 0, .int 1, .int 0, .int 0, .int 0, .null, .int 0, .int 0, .int 0, .int 0, .long 0, .int 0, .int (-1), .ref q_62, .ref q_63])), (q_62, .inl (cA_64, 60, .inl (fun _ => 0))), (q_63, .inl (cA_65, 60, .inl (fun _ => 0)))]) [0, 1, 2, 3, 4, 5, 6, 7] (by decide) rfl
  refine lv_aload_n hx hb dX11_init_143 rfl (lv_at hl 0 rfl) ?_
  refine va_new (ci := 5) (fs := [.int 0, .int 0, .int 0, .int 0, .int 0, .int 0, .null, .null, .null, .null, .int 0]) (C := RX5) (T := TX5) (N := 11) hx hb hts mem_X11_init_19 tyX5 tyX5_ok hown (ow (k := 55) rfl) (ow (k := 56) rfl) (ow (k := 57) rfl) hK hP hD hS hA rfl (df_X5) (Nat.le_of_ble_eq_true rfl) (Nat.le_of_ble_eq_true rfl) dX11_init_144 (fun q_102 H hP hD hS => ?_)
  have hP : va_P (dC, dI) vwP [(h0, .inr (11, [.ref q_1, .int 0, .int (-1), .ref q_3, .ref q_21, .ref q_39, .int 0, .ref q_52, .int 0, .ref q_60, .ref q_66, .ref q_73, .ref q_79, .ref q_84, .ref q_92, .null, .null])), (q_1, .inl (cA_2, 8192, .inl (fun _ => 0))), (q_3, .inr (0, [.int 0, .int 0, .int 0, .int 0, .ref q_4, .ref q_5, .ref q_6, .ref q_7, .ref q_8, .ref q_9, .ref q_10, .ref q_11, .ref q_12, .ref q_13, .ref q_14, .ref q_15, .ref q_16, .ref q_17, .ref q_18])), (q_4, .inl (cA_19, 301, .inl (fun _ => 0))), (q_15, .inl (cA_20, 301, .inl (fun _ => 0))), (q_60, .inr (7, [.int 0, .ref q_61, .int 0, .int 0, .int 1, .int 0, .int 0, .int 0, .null, .int 0, .int 0, .int 0, .int 0, .long 0, .int 0, .int (-1), .ref q_62, .ref q_63])), (q_62, .inl (cA_64, 60, .inl (fun _ => 0))), (q_63, .inl (cA_65, 60, .inl (fun _ => 0))), (q_102, .inr (5, [.int 0, .int 0, .int 0, .int 0, .int 0, .int 0, .null, .null, .null, .null, .int 0]))] H := hP
  have hD : va_D A [(h0, .inr (11, [.ref q_1, .int 0, .int (-1), .ref q_3, .ref q_21, .ref q_39, .int 0, .ref q_52, .int 0, .ref q_60, .ref q_66, .ref q_73, .ref q_79, .ref q_84, .ref q_92, .null, .null])), (q_1, .inl (cA_2, 8192, .inl (fun _ => 0))), (q_3, .inr (0, [.int 0, .int 0, .int 0, .int 0, .ref q_4, .ref q_5, .ref q_6, .ref q_7, .ref q_8, .ref q_9, .ref q_10, .ref q_11, .ref q_12, .ref q_13, .ref q_14, .ref q_15, .ref q_16, .ref q_17, .ref q_18])), (q_4, .inl (cA_19, 301, .inl (fun _ => 0))), (q_15, .inl (cA_20, 301, .inl (fun _ => 0))), (q_60, .inr (7, [.int 0, .ref q_61, .int 0, .int 0, .int 1, .int 0, .int 0, .int 0, .null, .int 0, .int 0, .int 0, .int 0, .long 0, .int 0, .int (-1), .ref q_62, .ref q_63])), (q_62, .inl (cA_64, 60, .inl (fun _ => 0))), (q_63, .inl (cA_65, 60, .inl (fun _ => 0))), (q_102, .inr (5, [.int 0, .int 0, .int 0, .int 0, .int 0, .int 0, .null, .null, .null, .null, .int 0]))] := hD
  refine W.widen (k := 95) (n := 103612) (Nat.le_of_ble_eq_true rfl) (Nat.le_of_ble_eq_true rfl) ?_
  refine lv_dup hx hb dX11_init_147 rfl ?_
  have hPc := hP.sub (ws' := [(q_102, .inr (5, [.int 0, .int 0, .int 0, .int 0, .int 0, .int 0, .null, .null, .null, .null, .int 0]))]) [8] rfl
  have hDc := hD.sub (ws' := [(q_102, .inr (5, [.int 0, .int 0, .int 0, .int 0, .int 0, .int 0, .null, .null, .null, .null, .int 0]))]) [8] (by decide) rfl
  have hKc := hK.sub (tys' := []) [] rfl
  have hFc := va_free (wc := [(q_102, .inr (5, [.int 0, .int 0, .int 0, .int 0, .int 0, .int 0, .null, .null, .null, .null, .int 0]))]) hD hS hA [8] rfl
  refine va_callv (va_runIN (As := []) (rest := [.ref q_102, .ref h0]) ⟨hx, hb, hml, hown, hts⟩ (c_X5_init l dC dI q_102 H.size) ⟨va_cnB 0 hts (goodIn_sub mem_X11_init_20 gw_X5_init) rfl rfl rfl hp9 (ow (k := 57) rfl) (by decide +kernel) ⟨(Nat.le_of_ble_eq_true rfl), (Nat.le_of_ble_eq_true rfl)⟩, rfl, (ow (k := 58) rfl)⟩ ⟨fun a U g mk q => by obtain ⟨q0, q1, qP, qK, qD⟩ := q; exact ⟨q0, q1, qP, va_K.moved (u := U) (U := U.calling g mk a) (Vm.Alike.refl U.vm) qK, qD⟩, fun U hU hW => ⟨rfl, by rw [hU], by rw [hU]; exact hPc, va_K.moved hW.alike hKc, hDc.weaken (fun _ _ _ _ => trivial)⟩⟩ rfl rfl hl.1 rfl (lv_room (Nat.le_of_ble_eq_true rfl)) dX11_init_148 ⟨(Nat.le_of_ble_eq_true rfl), (Nat.le_of_ble_eq_true rfl)⟩) hS (fun q _ h => hFc q h) hFc (fun  u t H1 locs ht hvm hw hB hz1 hk1 hS => ?_)
  obtain ⟨q_103, q_104, q_105, q_106, hP1, hK1, hD1⟩ := hB
  rw [ht] at hP1
  have hK1 := va_K.moved hvm.symm hK1
  obtain ⟨hP, hD⟩ := va_join (wr := [(h0, .inr (11, [.ref q_1, .int 0, .int (-1), .ref q_3, .ref q_21, .ref q_39, .int 0, .ref q_52, .int 0, .ref q_60, .ref q_66, .ref q_73, .ref q_79, .ref q_84, .ref q_92, .null, .null])), (q_1, .inl (cA_2, 8192, .inl (fun _ => 0))), (q_3, .inr (0, [.int 0, .int 0, .int 0, .int 0, .ref q_4, .ref q_5, .ref q_6, .ref q_7, .ref q_8, .ref q_9, .ref q_10, .ref q_11, .ref q_12, .ref q_13, .ref q_14, .ref q_15, .ref q_16, .ref q_17, .ref q_18])), (q_4, .inl (cA_19, 301, .inl (fun _ => 0))), (q_15, .inl (cA_20, 301, .inl (fun _ => 0))), (q_60, .inr (7, [.int 0, .ref q_61, .int 0, .int 0, .int 1, .int 0, .int 0, .int 0, .null, .int 0, .int 0, .int 0, .int 0, .long 0, .int 0, .int (-1), .ref q_62, .ref q_63])), (q_62, .inl (cA_64, 60, .inl (fun _ => 0))), (q_63, .inl (cA_65, 60, .inl (fun _ => 0)))]) (w1 := [(q_102, .inr (5, [.int 0, .int 0, .int 0, .int 0, .int 0, .int (-1), .ref q_103, .ref q_104, .ref q_105, .ref q_106, .int 0]))]) hP hD [8] [0, 1, 2, 3, 4, 5, 6, 7] rfl rfl (by decide) (by decide) hk1 hFc hP1 hD1
  have hK := (hK.sub (tys' := [(cA_2, .byte), (cA_19, .int), (cA_20, .int), (cA_64, .boolean), (cA_65, .int)]) [0, 1, 2, 3, 4] rfl).app hK1
  generalize H1 = H at hP hS ⊢
  have hP : va_P (dC, dI) vwP [(h0, .inr (11, [.ref q_1, .int 0, .int (-1), .ref q_3, .ref q_21, .ref q_39, .int 0, .ref q_52, .int 0, .ref q_60, .ref q_66, .ref q_73, .ref q_79, .ref q_84, .ref q_92, .null, .null])), (q_1, .inl (cA_2, 8192, .inl (fun _ => 0))), (q_3, .inr (0, [.int 0, .int 0, .int 0, .int 0, .ref q_4, .ref q_5, .ref q_6, .ref q_7, .ref q_8, .ref q_9, .ref q_10, .ref q_11, .ref q_12, .ref q_13, .ref q_14, .ref q_15, .ref q_16, .ref q_17, .ref q_18])), (q_4, .inl (cA_19, 301, .inl (fun _ => 0))), (q_15, .inl (cA_20, 301, .inl (fun _ => 0))), (q_60, .inr (7, [.int 0, .ref q_61, .int 0, .int 0, .int 1, .int 0, .int 0, .int 0, .null, .int 0, .int 0, .int 0, .int 0, .long 0, .int 0, .int (-1), .ref q_62, .ref q_63])), (q_62, .inl (cA_64, 60, .inl (fun _ => 0))), (q_63, .inl (cA_65, 60, .inl (fun _ => 0))), (q_102, .inr (5, [.int 0, .int 0, .int 0, .int 0, .int 0, .int (-1), .ref q_103, .ref q_104, .ref q_105, .ref q_106, .int 0]))] H := hP
  have hD : va_D A [(h0, .inr (11, [.ref q_1, .int 0, .int (-1), .ref q_3, .ref q_21, .ref q_39, .int 0, .ref q_52, .int 0, .ref q_60, .ref q_66, .ref q_73, .ref q_79, .ref q_84, .ref q_92, .null, .null])), (q_1, .inl (cA_2, 8192, .inl (fun _ => 0))), (q_3, .inr (0, [.int 0, .int 0, .int 0, .int 0, .ref q_4, .ref q_5, .ref q_6, .ref q_7, .ref q_8, .ref q_9, .ref q_10, .ref q_11, .ref q_12, .ref q_13, .ref q_14, .ref q_15, .ref q_16, .ref q_17, .ref q_18])), (q_4, .inl (cA_19, 301, .inl (fun _ => 0))), (q_15, .inl (cA_20, 301, .inl (fun _ => 0))), (q_60, .inr (7, [.int 0, .ref q_61, .int 0, .int 0, .int 1, .int 0, .int 0, .int 0, .null, .int 0, .int 0, .int 0, .int 0, .long 0, .int 0, .int (-1), .ref q_62, .ref q_63])), (q_62, .inl (cA_64, 60, .inl (fun _ => 0))), (q_63, .inl (cA_65, 60, .inl (fun _ => 0))), (q_102, .inr (5, [.int 0, .int 0, .int 0, .int 0, .int 0, .int (-1), .ref q_103, .ref q_104, .ref q_105, .ref q_106, .int 0]))] := hD
  have hK : va_K (dC, dI) vwP [(cA_2, .byte), (cA_19, .int), (cA_20, .int), (cA_64, .boolean), (cA_65, .int)] s := hK
  refine W.widen (k := 99) (n := 108196) (Nat.le_of_ble_eq_true rfl) (Nat.le_of_ble_eq_true rfl) ?_
  refine va_putF (D := (dC, dI)) (ci := 11) (v := .ref q_102) (ty := .object "SsaForge$Machine") (C := RX11) (T := TX11) (N := 17) hx hb hts mem_X11_init_0 tyX11 tyX11_ok nmX11 hown hK hP hD hS 0 rfl rfl 15 (by decide) (ow (k := 59) rfl) (fun _ h9 => h9) rfl hin rfl (by decide +kernel) rfl rfl (Nat.le_of_ble_eq_true rfl) dX11_init_151 (fun H locs hP hD hS => ?_)
  have hP : va_P (dC, dI) vwP [(h0, .inr (11, [.ref q_1, .int 0, .int (-1), .ref q_3, .ref q_21, .ref q_39, .int 0, .ref q_52, .int 0, .ref q_60, .ref q_66, .ref q_73, .ref q_79, .ref q_84, .ref q_92, .ref q_102, .null])), (q_1, .inl (cA_2, 8192, .inl (fun _ => 0))), (q_3, .inr (0, [.int 0, .int 0, .int 0, .int 0, .ref q_4, .ref q_5, .ref q_6, .ref q_7, .ref q_8, .ref q_9, .ref q_10, .ref q_11, .ref q_12, .ref q_13, .ref q_14, .ref q_15, .ref q_16, .ref q_17, .ref q_18])), (q_4, .inl (cA_19, 301, .inl (fun _ => 0))), (q_15, .inl (cA_20, 301, .inl (fun _ => 0))), (q_60, .inr (7, [.int 0, .ref q_61, .int 0, .int 0, .int 1, .int 0, .int 0, .int 0, .null, .int 0, .int 0, .int 0, .int 0, .long 0, .int 0, .int (-1), .ref q_62, .ref q_63])), (q_62, .inl (cA_64, 60, .inl (fun _ => 0))), (q_63, .inl (cA_65, 60, .inl (fun _ => 0))), (q_102, .inr (5, [.int 0, .int 0, .int 0, .int 0, .int 0, .int (-1), .ref q_103, .ref q_104, .ref q_105, .ref q_106, .int 0]))] H := hP
  have hD : va_D A [(h0, .inr (11, [.ref q_1, .int 0, .int (-1), .ref q_3, .ref q_21, .ref q_39, .int 0, .ref q_52, .int 0, .ref q_60, .ref q_66, .ref q_73, .ref q_79, .ref q_84, .ref q_92, .ref q_102, .null])), (q_1, .inl (cA_2, 8192, .inl (fun _ => 0))), (q_3, .inr (0, [.int 0, .int 0, .int 0, .int 0, .ref q_4, .ref q_5, .ref q_6, .ref q_7, .ref q_8, .ref q_9, .ref q_10, .ref q_11, .ref q_12, .ref q_13, .ref q_14, .ref q_15, .ref q_16, .ref q_17, .ref q_18])), (q_4, .inl (cA_19, 301, .inl (fun _ => 0))), (q_15, .inl (cA_20, 301, .inl (fun _ => 0))), (q_60, .inr (7, [.int 0, .ref q_61, .int 0, .int 0, .int 1, .int 0, .int 0, .int 0, .null, .int 0, .int 0, .int 0, .int 0, .long 0, .int 0, .int (-1), .ref q_62, .ref q_63])), (q_62, .inl (cA_64, 60, .inl (fun _ => 0))), (q_63, .inl (cA_65, 60, .inl (fun _ => 0))), (q_102, .inr (5, [.int 0, .int 0, .int 0, .int 0, .int 0, .int (-1), .ref q_103, .ref q_104, .ref q_105, .ref q_106, .int 0]))] := hD
  refine lv_aload_n hx hb dX11_init_154 rfl (lv_at hl 0 rfl) ?_
  refine va_new (ci := 6) (fs := [.int 0, .null, .null, .int 0, .int 0]) (C := RX6) (T := TX6) (N := 5) hx hb hts mem_X11_init_21 tyX6 tyX6_ok hown (ow (k := 60) rfl) (ow (k := 61) rfl) (ow (k := 62) rfl) hK hP hD hS hA rfl (df_X6) (Nat.le_of_ble_eq_true rfl) (Nat.le_of_ble_eq_true rfl) dX11_init_155 (fun q_107 H hP hD hS => ?_)
  have hP : va_P (dC, dI) vwP [(h0, .inr (11, [.ref q_1, .int 0, .int (-1), .ref q_3, .ref q_21, .ref q_39, .int 0, .ref q_52, .int 0, .ref q_60, .ref q_66, .ref q_73, .ref q_79, .ref q_84, .ref q_92, .ref q_102, .null])), (q_1, .inl (cA_2, 8192, .inl (fun _ => 0))), (q_3, .inr (0, [.int 0, .int 0, .int 0, .int 0, .ref q_4, .ref q_5, .ref q_6, .ref q_7, .ref q_8, .ref q_9, .ref q_10, .ref q_11, .ref q_12, .ref q_13, .ref q_14, .ref q_15, .ref q_16, .ref q_17, .ref q_18])), (q_4, .inl (cA_19, 301, .inl (fun _ => 0))), (q_15, .inl (cA_20, 301, .inl (fun _ => 0))), (q_60, .inr (7, [.int 0, .ref q_61, .int 0, .int 0, .int 1, .int 0, .int 0, .int 0, .null, .int 0, .int 0, .int 0, .int 0, .long 0, .int 0, .int (-1), .ref q_62, .ref q_63])), (q_62, .inl (cA_64, 60, .inl (fun _ => 0))), (q_63, .inl (cA_65, 60, .inl (fun _ => 0))), (q_102, .inr (5, [.int 0, .int 0, .int 0, .int 0, .int 0, .int (-1), .ref q_103, .ref q_104, .ref q_105, .ref q_106, .int 0])), (q_107, .inr (6, [.int 0, .null, .null, .int 0, .int 0]))] H := hP
  have hD : va_D A [(h0, .inr (11, [.ref q_1, .int 0, .int (-1), .ref q_3, .ref q_21, .ref q_39, .int 0, .ref q_52, .int 0, .ref q_60, .ref q_66, .ref q_73, .ref q_79, .ref q_84, .ref q_92, .ref q_102, .null])), (q_1, .inl (cA_2, 8192, .inl (fun _ => 0))), (q_3, .inr (0, [.int 0, .int 0, .int 0, .int 0, .ref q_4, .ref q_5, .ref q_6, .ref q_7, .ref q_8, .ref q_9, .ref q_10, .ref q_11, .ref q_12, .ref q_13, .ref q_14, .ref q_15, .ref q_16, .ref q_17, .ref q_18])), (q_4, .inl (cA_19, 301, .inl (fun _ => 0))), (q_15, .inl (cA_20, 301, .inl (fun _ => 0))), (q_60, .inr (7, [.int 0, .ref q_61, .int 0, .int 0, .int 1, .int 0, .int 0, .int 0, .null, .int 0, .int 0, .int 0, .int 0, .long 0, .int 0, .int (-1), .ref q_62, .ref q_63])), (q_62, .inl (cA_64, 60, .inl (fun _ => 0))), (q_63, .inl (cA_65, 60, .inl (fun _ => 0))), (q_102, .inr (5, [.int 0, .int 0, .int 0, .int 0, .int 0, .int (-1), .ref q_103, .ref q_104, .ref q_105, .ref q_106, .int 0])), (q_107, .inr (6, [.int 0, .null, .null, .int 0, .int 0]))] := hD
  refine W.widen (k := 100) (n := 108201) (Nat.le_of_ble_eq_true rfl) (Nat.le_of_ble_eq_true rfl) ?_
  refine lv_dup hx hb dX11_init_158 rfl ?_
  have hPc := hP.sub (ws' := [(q_107, .inr (6, [.int 0, .null, .null, .int 0, .int 0]))]) [9] rfl
  have hDc := hD.sub (ws' := [(q_107, .inr (6, [.int 0, .null, .null, .int 0, .int 0]))]) [9] (by decide) rfl
  have hKc := hK.sub (tys' := []) [] rfl
  have hFc := va_free (wc := [(q_107, .inr (6, [.int 0, .null, .null, .int 0, .int 0]))]) hD hS hA [9] rfl
  refine va_callv (va_runIN (As := []) (rest := [.ref q_107, .ref h0]) ⟨hx, hb, hml, hown, hts⟩ (c_X6_init l dC dI q_107 H.size) ⟨va_cnB 0 hts (goodIn_sub mem_X11_init_22 gw_X6_init) rfl rfl rfl hp10 (ow (k := 62) rfl) (by decide +kernel) ⟨(Nat.le_of_ble_eq_true rfl), (Nat.le_of_ble_eq_true rfl)⟩, rfl, (ow (k := 63) rfl)⟩ ⟨fun a U g mk q => by obtain ⟨q0, q1, qP, qK, qD⟩ := q; exact ⟨q0, q1, qP, va_K.moved (u := U) (U := U.calling g mk a) (Vm.Alike.refl U.vm) qK, qD⟩, fun U hU hW => ⟨rfl, by rw [hU], by rw [hU]; exact hPc, va_K.moved hW.alike hKc, hDc.weaken (fun _ _ _ _ => trivial)⟩⟩ rfl rfl hl.1 rfl (lv_room (Nat.le_of_ble_eq_true rfl)) dX11_init_159 ⟨(Nat.le_of_ble_eq_true rfl), (Nat.le_of_ble_eq_true rfl)⟩) hS (fun q _ h => hFc q h) hFc (fun  u t H1 locs ht hvm hw hB hz1 hk1 hS => ?_)
  obtain ⟨q_108, q_109, hP1, hK1, hD1⟩ := hB
  rw [ht] at hP1
  have hK1 := va_K.moved hvm.symm hK1
  obtain ⟨hP, hD⟩ := va_join (wr := [(h0, .inr (11, [.ref q_1, .int 0, .int (-1), .ref q_3, .ref q_21, .ref q_39, .int 0, .ref q_52, .int 0, .ref q_60, .ref q_66, .ref q_73, .ref q_79, .ref q_84, .ref q_92, .ref q_102, .null])), (q_1, .inl (cA_2, 8192, .inl (fun _ => 0))), (q_3, .inr (0, [.int 0, .int 0, .int 0, .int 0, .ref q_4, .ref q_5, .ref q_6, .ref q_7, .ref q_8, .ref q_9, .ref q_10, .ref q_11, .ref q_12, .ref q_13, .ref q_14, .ref q_15, .ref q_16, .ref q_17, .ref q_18])), (q_4, .inl (cA_19, 301, .inl (fun _ => 0))), (q_15, .inl (cA_20, 301, .inl (fun _ => 0))), (q_60, .inr (7, [.int 0, .ref q_61, .int 0, .int 0, .int 1, .int 0, .int 0, .int 0, .null, .int 0, .int 0, .int 0, .int 0, .long 0, .int 0, .int (-1), .ref q_62, .ref q_63])), (q_62, .inl (cA_64, 60, .inl (fun _ => 0))), (q_63, .inl (cA_65, 60, .inl (fun _ => 0))), (q_102, .inr (5, [.int 0, .int 0, .int 0, .int 0, .int 0, .int (-1), .ref q_103, .ref q_104, .ref q_105, .ref q_106, .int 0]))]) (w1 := [(q_107, .inr (6, [.int 0, .ref q_108, .ref q_109, .int 0, .int 0]))]) hP hD [9] [0, 1, 2, 3, 4, 5, 6, 7, 8] rfl rfl (by decide) (by decide) hk1 hFc hP1 hD1
  have hK := (hK.sub (tys' := [(cA_2, .byte), (cA_19, .int), (cA_20, .int), (cA_64, .boolean), (cA_65, .int)]) [0, 1, 2, 3, 4] rfl).app hK1
  generalize H1 = H at hP hS ⊢
  have hP : va_P (dC, dI) vwP [(h0, .inr (11, [.ref q_1, .int 0, .int (-1), .ref q_3, .ref q_21, .ref q_39, .int 0, .ref q_52, .int 0, .ref q_60, .ref q_66, .ref q_73, .ref q_79, .ref q_84, .ref q_92, .ref q_102, .null])), (q_1, .inl (cA_2, 8192, .inl (fun _ => 0))), (q_3, .inr (0, [.int 0, .int 0, .int 0, .int 0, .ref q_4, .ref q_5, .ref q_6, .ref q_7, .ref q_8, .ref q_9, .ref q_10, .ref q_11, .ref q_12, .ref q_13, .ref q_14, .ref q_15, .ref q_16, .ref q_17, .ref q_18])), (q_4, .inl (cA_19, 301, .inl (fun _ => 0))), (q_15, .inl (cA_20, 301, .inl (fun _ => 0))), (q_60, .inr (7, [.int 0, .ref q_61, .int 0, .int 0, .int 1, .int 0, .int 0, .int 0, .null, .int 0, .int 0, .int 0, .int 0, .long 0, .int 0, .int (-1), .ref q_62, .ref q_63])), (q_62, .inl (cA_64, 60, .inl (fun _ => 0))), (q_63, .inl (cA_65, 60, .inl (fun _ => 0))), (q_102, .inr (5, [.int 0, .int 0, .int 0, .int 0, .int 0, .int (-1), .ref q_103, .ref q_104, .ref q_105, .ref q_106, .int 0])), (q_107, .inr (6, [.int 0, .ref q_108, .ref q_109, .int 0, .int 0]))] H := hP
  have hD : va_D A [(h0, .inr (11, [.ref q_1, .int 0, .int (-1), .ref q_3, .ref q_21, .ref q_39, .int 0, .ref q_52, .int 0, .ref q_60, .ref q_66, .ref q_73, .ref q_79, .ref q_84, .ref q_92, .ref q_102, .null])), (q_1, .inl (cA_2, 8192, .inl (fun _ => 0))), (q_3, .inr (0, [.int 0, .int 0, .int 0, .int 0, .ref q_4, .ref q_5, .ref q_6, .ref q_7, .ref q_8, .ref q_9, .ref q_10, .ref q_11, .ref q_12, .ref q_13, .ref q_14, .ref q_15, .ref q_16, .ref q_17, .ref q_18])), (q_4, .inl (cA_19, 301, .inl (fun _ => 0))), (q_15, .inl (cA_20, 301, .inl (fun _ => 0))), (q_60, .inr (7, [.int 0, .ref q_61, .int 0, .int 0, .int 1, .int 0, .int 0, .int 0, .null, .int 0, .int 0, .int 0, .int 0, .long 0, .int 0, .int (-1), .ref q_62, .ref q_63])), (q_62, .inl (cA_64, 60, .inl (fun _ => 0))), (q_63, .inl (cA_65, 60, .inl (fun _ => 0))), (q_102, .inr (5, [.int 0, .int 0, .int 0, .int 0, .int 0, .int (-1), .ref q_103, .ref q_104, .ref q_105, .ref q_106, .int 0])), (q_107, .inr (6, [.int 0, .ref q_108, .ref q_109, .int 0, .int 0]))] := hD
  have hK : va_K (dC, dI) vwP [(cA_2, .byte), (cA_19, .int), (cA_20, .int), (cA_64, .boolean), (cA_65, .int)] s := hK
  refine W.widen (k := 102) (n := 112307) (Nat.le_of_ble_eq_true rfl) (Nat.le_of_ble_eq_true rfl) ?_
  refine va_putF (D := (dC, dI)) (ci := 11) (v := .ref q_107) (ty := .object "SsaForge$Printer") (C := RX11) (T := TX11) (N := 17) hx hb hts mem_X11_init_0 tyX11 tyX11_ok nmX11 hown hK hP hD hS 0 rfl rfl 16 (by decide) (ow (k := 64) rfl) (fun _ h9 => h9) rfl hin rfl (by decide +kernel) rfl rfl (Nat.le_of_ble_eq_true rfl) dX11_init_162 (fun H locs hP hD hS => ?_)
  have hP : va_P (dC, dI) vwP [(h0, .inr (11, [.ref q_1, .int 0, .int (-1), .ref q_3, .ref q_21, .ref q_39, .int 0, .ref q_52, .int 0, .ref q_60, .ref q_66, .ref q_73, .ref q_79, .ref q_84, .ref q_92, .ref q_102, .ref q_107])), (q_1, .inl (cA_2, 8192, .inl (fun _ => 0))), (q_3, .inr (0, [.int 0, .int 0, .int 0, .int 0, .ref q_4, .ref q_5, .ref q_6, .ref q_7, .ref q_8, .ref q_9, .ref q_10, .ref q_11, .ref q_12, .ref q_13, .ref q_14, .ref q_15, .ref q_16, .ref q_17, .ref q_18])), (q_4, .inl (cA_19, 301, .inl (fun _ => 0))), (q_15, .inl (cA_20, 301, .inl (fun _ => 0))), (q_60, .inr (7, [.int 0, .ref q_61, .int 0, .int 0, .int 1, .int 0, .int 0, .int 0, .null, .int 0, .int 0, .int 0, .int 0, .long 0, .int 0, .int (-1), .ref q_62, .ref q_63])), (q_62, .inl (cA_64, 60, .inl (fun _ => 0))), (q_63, .inl (cA_65, 60, .inl (fun _ => 0))), (q_102, .inr (5, [.int 0, .int 0, .int 0, .int 0, .int 0, .int (-1), .ref q_103, .ref q_104, .ref q_105, .ref q_106, .int 0])), (q_107, .inr (6, [.int 0, .ref q_108, .ref q_109, .int 0, .int 0]))] H := hP
  have hD : va_D A [(h0, .inr (11, [.ref q_1, .int 0, .int (-1), .ref q_3, .ref q_21, .ref q_39, .int 0, .ref q_52, .int 0, .ref q_60, .ref q_66, .ref q_73, .ref q_79, .ref q_84, .ref q_92, .ref q_102, .ref q_107])), (q_1, .inl (cA_2, 8192, .inl (fun _ => 0))), (q_3, .inr (0, [.int 0, .int 0, .int 0, .int 0, .ref q_4, .ref q_5, .ref q_6, .ref q_7, .ref q_8, .ref q_9, .ref q_10, .ref q_11, .ref q_12, .ref q_13, .ref q_14, .ref q_15, .ref q_16, .ref q_17, .ref q_18])), (q_4, .inl (cA_19, 301, .inl (fun _ => 0))), (q_15, .inl (cA_20, 301, .inl (fun _ => 0))), (q_60, .inr (7, [.int 0, .ref q_61, .int 0, .int 0, .int 1, .int 0, .int 0, .int 0, .null, .int 0, .int 0, .int 0, .int 0, .long 0, .int 0, .int (-1), .ref q_62, .ref q_63])), (q_62, .inl (cA_64, 60, .inl (fun _ => 0))), (q_63, .inl (cA_65, 60, .inl (fun _ => 0))), (q_102, .inr (5, [.int 0, .int 0, .int 0, .int 0, .int 0, .int (-1), .ref q_103, .ref q_104, .ref q_105, .ref q_106, .int 0])), (q_107, .inr (6, [.int 0, .ref q_108, .ref q_109, .int 0, .int 0]))] := hD
  refine W.widen (k := 102) (n := 112307) (Nat.le_of_ble_eq_true rfl) (Nat.le_of_ble_eq_true rfl) ?_
  exact W.vret hx hb hr (fun t ht hW => ⟨⟨(), rfl, trivial, q_1, q_3, q_21, q_39, q_52, q_60, q_66, q_73, q_79, q_84, q_92, q_102, q_107, cA_2, q_4, q_5, q_6, q_7, q_8, q_9, q_10, q_11, q_12, q_13, q_14, q_15, q_16, q_17, q_18, cA_19, cA_20, q_61, q_62, q_63, cA_64, cA_65, q_103, q_104, q_105, q_106, q_108, q_109, by rw [ht]; exact hP, va_K.moved hW.alike hK, hD⟩, hS.F ht⟩) hS.2.2 dX11_init_165
end
section
theorem dX11_putOnTape_0 : decode cX11_putOnTape 0 = .ok (.aload_n 0, 1) := by decide +kernel
theorem dX11_putOnTape_1 : decode cX11_putOnTape 1 = .ok (.getfield 9, 3) := by decide +kernel
theorem dX11_putOnTape_4 : decode cX11_putOnTape 4 = .ok (.aload_n 0, 1) := by decide +kernel
theorem dX11_putOnTape_5 : decode cX11_putOnTape 5 = .ok (.getfield 13, 3) := by decide +kernel
theorem dX11_putOnTape_8 : decode cX11_putOnTape 8 = .ok (.iload_n 1, 1) := by decide +kernel
theorem dX11_putOnTape_9 : decode cX11_putOnTape 9 = .ok (.bipush 24, 2) := by decide +kernel
theorem dX11_putOnTape_11 : decode cX11_putOnTape 11 = .ok (.ishr, 1) := by decide +kernel
theorem dX11_putOnTape_12 : decode cX11_putOnTape 12 = .ok (.i2b, 1) := by decide +kernel
theorem dX11_putOnTape_13 : decode cX11_putOnTape 13 = .ok (.bastore, 1) := by decide +kernel
theorem dX11_putOnTape_14 : decode cX11_putOnTape 14 = .ok (.aload_n 0, 1) := by decide +kernel
theorem dX11_putOnTape_15 : decode cX11_putOnTape 15 = .ok (.getfield 9, 3) := by decide +kernel
theorem dX11_putOnTape_18 : decode cX11_putOnTape 18 = .ok (.aload_n 0, 1) := by decide +kernel
theorem dX11_putOnTape_19 : decode cX11_putOnTape 19 = .ok (.getfield 13, 3) := by decide +kernel
theorem dX11_putOnTape_22 : decode cX11_putOnTape 22 = .ok (.iconst 1, 1) := by decide +kernel
theorem dX11_putOnTape_23 : decode cX11_putOnTape 23 = .ok (.iadd, 1) := by decide +kernel
theorem dX11_putOnTape_24 : decode cX11_putOnTape 24 = .ok (.iload_n 1, 1) := by decide +kernel
theorem dX11_putOnTape_25 : decode cX11_putOnTape 25 = .ok (.bipush 16, 2) := by decide +kernel
theorem dX11_putOnTape_27 : decode cX11_putOnTape 27 = .ok (.ishr, 1) := by decide +kernel
theorem dX11_putOnTape_28 : decode cX11_putOnTape 28 = .ok (.i2b, 1) := by decide +kernel
theorem dX11_putOnTape_29 : decode cX11_putOnTape 29 = .ok (.bastore, 1) := by decide +kernel
theorem dX11_putOnTape_30 : decode cX11_putOnTape 30 = .ok (.aload_n 0, 1) := by decide +kernel
theorem dX11_putOnTape_31 : decode cX11_putOnTape 31 = .ok (.getfield 9, 3) := by decide +kernel
theorem dX11_putOnTape_34 : decode cX11_putOnTape 34 = .ok (.aload_n 0, 1) := by decide +kernel
theorem dX11_putOnTape_35 : decode cX11_putOnTape 35 = .ok (.getfield 13, 3) := by decide +kernel
theorem dX11_putOnTape_38 : decode cX11_putOnTape 38 = .ok (.iconst 2, 1) := by decide +kernel
theorem dX11_putOnTape_39 : decode cX11_putOnTape 39 = .ok (.iadd, 1) := by decide +kernel
theorem dX11_putOnTape_40 : decode cX11_putOnTape 40 = .ok (.iload_n 1, 1) := by decide +kernel
theorem dX11_putOnTape_41 : decode cX11_putOnTape 41 = .ok (.bipush 8, 2) := by decide +kernel
theorem dX11_putOnTape_43 : decode cX11_putOnTape 43 = .ok (.ishr, 1) := by decide +kernel
theorem dX11_putOnTape_44 : decode cX11_putOnTape 44 = .ok (.i2b, 1) := by decide +kernel
theorem dX11_putOnTape_45 : decode cX11_putOnTape 45 = .ok (.bastore, 1) := by decide +kernel
theorem dX11_putOnTape_46 : decode cX11_putOnTape 46 = .ok (.aload_n 0, 1) := by decide +kernel
theorem dX11_putOnTape_47 : decode cX11_putOnTape 47 = .ok (.getfield 9, 3) := by decide +kernel
theorem dX11_putOnTape_50 : decode cX11_putOnTape 50 = .ok (.aload_n 0, 1) := by decide +kernel
theorem dX11_putOnTape_51 : decode cX11_putOnTape 51 = .ok (.getfield 13, 3) := by decide +kernel
theorem dX11_putOnTape_54 : decode cX11_putOnTape 54 = .ok (.iconst 3, 1) := by decide +kernel
theorem dX11_putOnTape_55 : decode cX11_putOnTape 55 = .ok (.iadd, 1) := by decide +kernel
theorem dX11_putOnTape_56 : decode cX11_putOnTape 56 = .ok (.iload_n 1, 1) := by decide +kernel
theorem dX11_putOnTape_57 : decode cX11_putOnTape 57 = .ok (.i2b, 1) := by decide +kernel
theorem dX11_putOnTape_58 : decode cX11_putOnTape 58 = .ok (.bastore, 1) := by decide +kernel
theorem dX11_putOnTape_59 : decode cX11_putOnTape 59 = .ok (.aload_n 0, 1) := by decide +kernel
theorem dX11_putOnTape_60 : decode cX11_putOnTape 60 = .ok (.dup, 1) := by decide +kernel
theorem dX11_putOnTape_61 : decode cX11_putOnTape 61 = .ok (.getfield 13, 3) := by decide +kernel
theorem dX11_putOnTape_64 : decode cX11_putOnTape 64 = .ok (.iconst 4, 1) := by decide +kernel
theorem dX11_putOnTape_65 : decode cX11_putOnTape 65 = .ok (.iadd, 1) := by decide +kernel
theorem dX11_putOnTape_66 : decode cX11_putOnTape 66 = .ok (.putfield 13, 3) := by decide +kernel
theorem dX11_putOnTape_69 : decode cX11_putOnTape 69 = .ok (.return_, 1) := by decide +kernel
def o_X11_put0 : List Cond := [.fieldLink RX11 9 "SsaForge" "tape" "[B", .fieldLink RX11 13 "SsaForge" "tapeLength" "I"]
def v_X11_put0 : List Cond := .code yX11_putOnTape cX11_putOnTape 2 none :: (o_X11_put0 ++ (wsX110 ++ []))
theorem mow_X11_put0 : ∀ w ∈ o_X11_put0, w ∈ v_X11_put0 := fun _ h => List.mem_cons_of_mem _ (List.mem_append_left _ h)
theorem mem_X11_put0_0 : ∀ w ∈ wsX110, w ∈ v_X11_put0 := fun _ h => List.mem_cons_of_mem _ (List.mem_append_right _ (List.mem_append_left _ h))
set_option maxRecDepth 20000 in
theorem gw_X11_put0 : v_X11_put0.all goodWord = true := by decide +kernel
set_option maxHeartbeats 4000000 in
set_option maxRecDepth 100000 in
theorem c_X11_put0 (l : Launch) (dC : Nat → ClassId) (dI : Nat → Nat → Nat) (h0 : Nat) (q_1 : Nat) (q_3 : Nat) (q_21 : Nat) (q_39 : Nat) (q_52 : Nat) (q_60 : Nat) (q_66 : Nat) (q_73 : Nat) (q_79 : Nat) (q_84 : Nat) (q_92 : Nat) (q_102 : Nat) (q_107 : Nat) (cA_2 : ClassId) (f_0 : Nat → Int32) (p0 : Int32) (sz : Nat) : Met l yX11_putOnTape v_X11_put0 ({ frames := 0, cells := 0, slots := 0, locals := 0 }) (va_Pc [.ref h0, .int p0] (fun U => U.heap.size = sz ∧ va_P (dC, dI) vwP [(h0, .inr (11, [.ref q_1, .int 0, .int (-1), .ref q_3, .ref q_21, .ref q_39, .int 0, .ref q_52, .int 0, .ref q_60, .ref q_66, .ref q_73, .ref q_79, .ref q_84, .ref q_92, .ref q_102, .ref q_107])), (q_1, .inl (cA_2, 8192, .inl f_0))] U.heap ∧ va_K (dC, dI) vwP [(cA_2, .byte)] U ∧ va_D (fun _ => True) [(h0, .inr (11, [.ref q_1, .int 0, .int (-1), .ref q_3, .ref q_21, .ref q_39, .int 0, .ref q_52, .int 0, .ref q_60, .ref q_66, .ref q_73, .ref q_79, .ref q_84, .ref q_92, .ref q_102, .ref q_107])), (q_1, .inl (cA_2, 8192, .inl f_0))])) (va_Qv (fun _ : Unit => True) (fun (_ : Unit) (t : State) => ∃ (g0_9 : Nat → Int32), va_P (dC, dI) vwP [(h0, .inr (11, [.ref q_1, .int 4, .int (-1), .ref q_3, .ref q_21, .ref q_39, .int 0, .ref q_52, .int 0, .ref q_60, .ref q_66, .ref q_73, .ref q_79, .ref q_84, .ref q_92, .ref q_102, .ref q_107])), (q_1, .inl (cA_2, 8192, .inl g0_9))] t.heap ∧ va_K (dC, dI) vwP [(cA_2, .byte)] t ∧ va_D (va_A [(h0, .inr (11, [.ref q_1, .int 0, .int (-1), .ref q_3, .ref q_21, .ref q_39, .int 0, .ref q_52, .int 0, .ref q_60, .ref q_66, .ref q_73, .ref q_79, .ref q_84, .ref q_92, .ref q_102, .ref q_107])), (q_1, .inl (cA_2, 8192, .inl f_0))] sz) [(h0, .inr (11, [.ref q_1, .int 4, .int (-1), .ref q_3, .ref q_21, .ref q_39, .int 0, .ref q_52, .int 0, .ref q_60, .ref q_66, .ref q_73, .ref q_79, .ref q_84, .ref q_92, .ref q_102, .ref q_107])), (q_1, .inl (cA_2, 8192, .inl g0_9))]) (va_A [(h0, .inr (11, [.ref q_1, .int 0, .int (-1), .ref q_3, .ref q_21, .ref q_39, .int 0, .ref q_52, .int 0, .ref q_60, .ref q_66, .ref q_73, .ref q_79, .ref q_84, .ref q_92, .ref q_102, .ref q_107])), (q_1, .inl (cA_2, 8192, .inl f_0))] sz)) 0 0 (va_A [(h0, .inr (11, [.ref q_1, .int 0, .int (-1), .ref q_3, .ref q_21, .ref q_39, .int 0, .ref q_52, .int 0, .ref q_60, .ref q_66, .ref q_73, .ref q_79, .ref q_84, .ref q_92, .ref q_102, .ref q_107])), (q_1, .inl (cA_2, 8192, .inl f_0))] sz) := by
  refine Met.ofW (cc := cX11_putOnTape) (maxL := 2) (ret := none) (by decide) rfl ?_
  intro p e s m args below meth c s₁ B hml hv
  obtain ⟨rfl, hsz, hP, hK, hD0⟩ := hv
  have hx := B.exec
  have hb := B.bytes
  have hr := B.returns
  have hts := atoms_spec (ws := v_X11_put0) B.pre
  have hown : s.vm.findClass RX11 = some m.cls := findClass_of_methodNamed B.named
  have hlocks := B.notSynchronized
  have ow : ∀ {k : Nat} {w : Cond}, o_X11_put0[k]? = some w → w.before ([.ref h0, .int p0] : List Value).toArray s = true := fun h => hts _ (mow_X11_put0 _ (List.mem_of_getElem? h))
  subst hsz
  have hD := hD0.self (sz := s.heap.size)
  generalize hAe : va_A [(h0, .inr (11, [.ref q_1, .int 0, .int (-1), .ref q_3, .ref q_21, .ref q_39, .int 0, .ref q_52, .int 0, .ref q_60, .ref q_66, .ref q_73, .ref q_79, .ref q_84, .ref q_92, .ref q_102, .ref q_107])), (q_1, .inl (cA_2, 8192, .inl f_0))] s.heap.size = A at hD ⊢
  have hA : ∀ q : Nat, s.heap.size ≤ q → A q := fun q h => by rw [← hAe]; exact Or.inr h
  have hS : va_S A s.heap s.heap [] := va_S.rf
  have hP : va_P (dC, dI) vwP [(h0, .inr (11, [.ref q_1, .int 0, .int (-1), .ref q_3, .ref q_21, .ref q_39, .int 0, .ref q_52, .int 0, .ref q_60, .ref q_66, .ref q_73, .ref q_79, .ref q_84, .ref q_92, .ref q_102, .ref q_107])), (q_1, .inl (cA_2, 8192, .inl f_0))] s.heap := hP
  have hl := lv_entry ([.ref h0, .int p0]) (n := 2) (Nat.le_of_ble_eq_true rfl)
  rw [lg_entry_eq]
  generalize (lg_sl ([.ref h0, .int p0]) ++ List.replicate (2 - (lg_sl ([.ref h0, .int p0])).length) Slot.unset).toArray = ls at hl ⊢
  have hl : lv_has ls 2 [(0, .ref h0), (1, .int p0)] := hl
  obtain ⟨H, hH⟩ : ∃ H, H = s.heap := ⟨_, rfl⟩
  rw [← hH] at hP
  have hS : va_S A s.heap H [] := by rw [hH]; exact hS
  rw [← hH]
  refine lv_aload_n hx hb dX11_putOnTape_0 rfl (lv_at hl 0 rfl) ?_
  refine va_get (D := (dC, dI)) (ci := 11) (v := .ref q_1) (C := RX11) (T := TX11) (N := 17) hx hb hts mem_X11_put0_0 hown hK hP 0 rfl rfl 0 (by decide) (ow (k := 0) rfl) (fun _ h9 => h9) rfl dX11_putOnTape_1 ?_
  refine lv_aload_n hx hb dX11_putOnTape_4 rfl (lv_at hl 0 rfl) ?_
  refine va_get (D := (dC, dI)) (ci := 11) (v := .int 0) (C := RX11) (T := TX11) (N := 17) hx hb hts mem_X11_put0_0 hown hK hP 0 rfl rfl 1 (by decide) (ow (k := 1) rfl) (fun _ h9 => h9) rfl dX11_putOnTape_5 ?_
  refine lv_iload_n hx hb dX11_putOnTape_8 rfl (lv_at hl 1 rfl) ?_
  refine lv_bipush (v := 24) hx hb dX11_putOnTape_9 (by decide) ?_
  refine lv_ishr hx hb dX11_putOnTape_11 ?_
  refine lv_i2b hx hb dX11_putOnTape_12 rfl ?_
  refine va_bast hx hb hK hP hD hS 1 0 rfl rfl (show vp_in 0 8192 by rw [vp_in_iff]; decide) dX11_putOnTape_13 (fun H locs hP hD hS => ?_)
  have hP : va_P (dC, dI) vwP [(h0, .inr (11, [.ref q_1, .int 0, .int (-1), .ref q_3, .ref q_21, .ref q_39, .int 0, .ref q_52, .int 0, .ref q_60, .ref q_66, .ref q_73, .ref q_79, .ref q_84, .ref q_92, .ref q_102, .ref q_107])), (q_1, .inl (cA_2, 8192, .inl (upd f_0 (0 : Int32).toNatClampNeg (vp_nar .byte ((p0 >>> (24 &&& 31)).toInt8.toInt32)))))] H := hP
  have hD : va_D A [(h0, .inr (11, [.ref q_1, .int 0, .int (-1), .ref q_3, .ref q_21, .ref q_39, .int 0, .ref q_52, .int 0, .ref q_60, .ref q_66, .ref q_73, .ref q_79, .ref q_84, .ref q_92, .ref q_102, .ref q_107])), (q_1, .inl (cA_2, 8192, .inl (upd f_0 (0 : Int32).toNatClampNeg (vp_nar .byte ((p0 >>> (24 &&& 31)).toInt8.toInt32)))))] := hD
  generalize (upd f_0 (0 : Int32).toNatClampNeg (vp_nar .byte ((p0 >>> (24 &&& 31)).toInt8.toInt32))) = f_1 at hP hD
  refine lv_aload_n hx hb dX11_putOnTape_14 rfl (lv_at hl 0 rfl) ?_
  refine va_get (D := (dC, dI)) (ci := 11) (v := .ref q_1) (C := RX11) (T := TX11) (N := 17) hx hb hts mem_X11_put0_0 hown hK hP 0 rfl rfl 0 (by decide) (ow (k := 0) rfl) (fun _ h9 => h9) rfl dX11_putOnTape_15 ?_
  refine lv_aload_n hx hb dX11_putOnTape_18 rfl (lv_at hl 0 rfl) ?_
  refine va_get (D := (dC, dI)) (ci := 11) (v := .int 0) (C := RX11) (T := TX11) (N := 17) hx hb hts mem_X11_put0_0 hown hK hP 0 rfl rfl 1 (by decide) (ow (k := 1) rfl) (fun _ h9 => h9) rfl dX11_putOnTape_19 ?_
  refine lv_iconst (v := 1) hx hb dX11_putOnTape_22 (by decide) ?_
  refine lv_iadd hx hb dX11_putOnTape_23 ?_
  refine lv_topi (fun z ez => ?_)
  obtain rfl : z = 1 := by rw [ez]; decide
  refine lv_iload_n hx hb dX11_putOnTape_24 rfl (lv_at hl 1 rfl) ?_
  refine lv_bipush (v := 16) hx hb dX11_putOnTape_25 (by decide) ?_
  refine lv_ishr hx hb dX11_putOnTape_27 ?_
  refine lv_i2b hx hb dX11_putOnTape_28 rfl ?_
  refine va_bast hx hb hK hP hD hS 1 0 rfl rfl (show vp_in 1 8192 by rw [vp_in_iff]; decide) dX11_putOnTape_29 (fun H locs hP hD hS => ?_)
  have hP : va_P (dC, dI) vwP [(h0, .inr (11, [.ref q_1, .int 0, .int (-1), .ref q_3, .ref q_21, .ref q_39, .int 0, .ref q_52, .int 0, .ref q_60, .ref q_66, .ref q_73, .ref q_79, .ref q_84, .ref q_92, .ref q_102, .ref q_107])), (q_1, .inl (cA_2, 8192, .inl (upd f_1 (1 : Int32).toNatClampNeg (vp_nar .byte ((p0 >>> (16 &&& 31)).toInt8.toInt32)))))] H := hP
  have hD : va_D A [(h0, .inr (11, [.ref q_1, .int 0, .int (-1), .ref q_3, .ref q_21, .ref q_39, .int 0, .ref q_52, .int 0, .ref q_60, .ref q_66, .ref q_73, .ref q_79, .ref q_84, .ref q_92, .ref q_102, .ref q_107])), (q_1, .inl (cA_2, 8192, .inl (upd f_1 (1 : Int32).toNatClampNeg (vp_nar .byte ((p0 >>> (16 &&& 31)).toInt8.toInt32)))))] := hD
  generalize (upd f_1 (1 : Int32).toNatClampNeg (vp_nar .byte ((p0 >>> (16 &&& 31)).toInt8.toInt32))) = f_2 at hP hD
  refine lv_aload_n hx hb dX11_putOnTape_30 rfl (lv_at hl 0 rfl) ?_
  refine va_get (D := (dC, dI)) (ci := 11) (v := .ref q_1) (C := RX11) (T := TX11) (N := 17) hx hb hts mem_X11_put0_0 hown hK hP 0 rfl rfl 0 (by decide) (ow (k := 0) rfl) (fun _ h9 => h9) rfl dX11_putOnTape_31 ?_
  refine lv_aload_n hx hb dX11_putOnTape_34 rfl (lv_at hl 0 rfl) ?_
  refine va_get (D := (dC, dI)) (ci := 11) (v := .int 0) (C := RX11) (T := TX11) (N := 17) hx hb hts mem_X11_put0_0 hown hK hP 0 rfl rfl 1 (by decide) (ow (k := 1) rfl) (fun _ h9 => h9) rfl dX11_putOnTape_35 ?_
  refine lv_iconst (v := 2) hx hb dX11_putOnTape_38 (by decide) ?_
  refine lv_iadd hx hb dX11_putOnTape_39 ?_
  refine lv_topi (fun z ez => ?_)
  obtain rfl : z = 2 := by rw [ez]; decide
  refine lv_iload_n hx hb dX11_putOnTape_40 rfl (lv_at hl 1 rfl) ?_
  refine lv_bipush (v := 8) hx hb dX11_putOnTape_41 (by decide) ?_
  refine lv_ishr hx hb dX11_putOnTape_43 ?_
  refine lv_i2b hx hb dX11_putOnTape_44 rfl ?_
  refine va_bast hx hb hK hP hD hS 1 0 rfl rfl (show vp_in 2 8192 by rw [vp_in_iff]; decide) dX11_putOnTape_45 (fun H locs hP hD hS => ?_)
  have hP : va_P (dC, dI) vwP [(h0, .inr (11, [.ref q_1, .int 0, .int (-1), .ref q_3, .ref q_21, .ref q_39, .int 0, .ref q_52, .int 0, .ref q_60, .ref q_66, .ref q_73, .ref q_79, .ref q_84, .ref q_92, .ref q_102, .ref q_107])), (q_1, .inl (cA_2, 8192, .inl (upd f_2 (2 : Int32).toNatClampNeg (vp_nar .byte ((p0 >>> (8 &&& 31)).toInt8.toInt32)))))] H := hP
  have hD : va_D A [(h0, .inr (11, [.ref q_1, .int 0, .int (-1), .ref q_3, .ref q_21, .ref q_39, .int 0, .ref q_52, .int 0, .ref q_60, .ref q_66, .ref q_73, .ref q_79, .ref q_84, .ref q_92, .ref q_102, .ref q_107])), (q_1, .inl (cA_2, 8192, .inl (upd f_2 (2 : Int32).toNatClampNeg (vp_nar .byte ((p0 >>> (8 &&& 31)).toInt8.toInt32)))))] := hD
  generalize (upd f_2 (2 : Int32).toNatClampNeg (vp_nar .byte ((p0 >>> (8 &&& 31)).toInt8.toInt32))) = f_3 at hP hD
  refine lv_aload_n hx hb dX11_putOnTape_46 rfl (lv_at hl 0 rfl) ?_
  refine va_get (D := (dC, dI)) (ci := 11) (v := .ref q_1) (C := RX11) (T := TX11) (N := 17) hx hb hts mem_X11_put0_0 hown hK hP 0 rfl rfl 0 (by decide) (ow (k := 0) rfl) (fun _ h9 => h9) rfl dX11_putOnTape_47 ?_
  refine lv_aload_n hx hb dX11_putOnTape_50 rfl (lv_at hl 0 rfl) ?_
  refine va_get (D := (dC, dI)) (ci := 11) (v := .int 0) (C := RX11) (T := TX11) (N := 17) hx hb hts mem_X11_put0_0 hown hK hP 0 rfl rfl 1 (by decide) (ow (k := 1) rfl) (fun _ h9 => h9) rfl dX11_putOnTape_51 ?_
  refine lv_iconst (v := 3) hx hb dX11_putOnTape_54 (by decide) ?_
  refine lv_iadd hx hb dX11_putOnTape_55 ?_
  refine lv_topi (fun z ez => ?_)
  obtain rfl : z = 3 := by rw [ez]; decide
  refine lv_iload_n hx hb dX11_putOnTape_56 rfl (lv_at hl 1 rfl) ?_
  refine lv_i2b hx hb dX11_putOnTape_57 rfl ?_
  refine va_bast hx hb hK hP hD hS 1 0 rfl rfl (show vp_in 3 8192 by rw [vp_in_iff]; decide) dX11_putOnTape_58 (fun H locs hP hD hS => ?_)
  have hP : va_P (dC, dI) vwP [(h0, .inr (11, [.ref q_1, .int 0, .int (-1), .ref q_3, .ref q_21, .ref q_39, .int 0, .ref q_52, .int 0, .ref q_60, .ref q_66, .ref q_73, .ref q_79, .ref q_84, .ref q_92, .ref q_102, .ref q_107])), (q_1, .inl (cA_2, 8192, .inl (upd f_3 (3 : Int32).toNatClampNeg (vp_nar .byte (p0.toInt8.toInt32)))))] H := hP
  have hD : va_D A [(h0, .inr (11, [.ref q_1, .int 0, .int (-1), .ref q_3, .ref q_21, .ref q_39, .int 0, .ref q_52, .int 0, .ref q_60, .ref q_66, .ref q_73, .ref q_79, .ref q_84, .ref q_92, .ref q_102, .ref q_107])), (q_1, .inl (cA_2, 8192, .inl (upd f_3 (3 : Int32).toNatClampNeg (vp_nar .byte (p0.toInt8.toInt32)))))] := hD
  generalize (upd f_3 (3 : Int32).toNatClampNeg (vp_nar .byte (p0.toInt8.toInt32))) = f_4 at hP hD
  refine lv_aload_n hx hb dX11_putOnTape_59 rfl (lv_at hl 0 rfl) ?_
  refine lv_dup hx hb dX11_putOnTape_60 rfl ?_
  refine va_get (D := (dC, dI)) (ci := 11) (v := .int 0) (C := RX11) (T := TX11) (N := 17) hx hb hts mem_X11_put0_0 hown hK hP 0 rfl rfl 1 (by decide) (ow (k := 1) rfl) (fun _ h9 => h9) rfl dX11_putOnTape_61 ?_
  refine lv_iconst (v := 4) hx hb dX11_putOnTape_64 (by decide) ?_
  refine lv_iadd hx hb dX11_putOnTape_65 ?_
  refine lv_topi (fun z ez => ?_)
  obtain rfl : z = 4 := by rw [ez]; decide
  refine va_put (D := (dC, dI)) (ci := 11) (v := .int 4) (ty := .int) (C := RX11) (T := TX11) (N := 17) hx hb hts mem_X11_put0_0 tyX11 tyX11_ok nmX11 hown hK hP hD hS 0 rfl rfl 1 (by decide) (ow (k := 1) rfl) (fun _ h9 => h9) rfl (by decide +kernel) rfl rfl (Nat.le_of_ble_eq_true rfl) dX11_putOnTape_66 (fun H locs hP hD hS => ?_)
  have hP : va_P (dC, dI) vwP [(h0, .inr (11, [.ref q_1, .int 4, .int (-1), .ref q_3, .ref q_21, .ref q_39, .int 0, .ref q_52, .int 0, .ref q_60, .ref q_66, .ref q_73, .ref q_79, .ref q_84, .ref q_92, .ref q_102, .ref q_107])), (q_1, .inl (cA_2, 8192, .inl f_4))] H := hP
  have hD : va_D A [(h0, .inr (11, [.ref q_1, .int 4, .int (-1), .ref q_3, .ref q_21, .ref q_39, .int 0, .ref q_52, .int 0, .ref q_60, .ref q_66, .ref q_73, .ref q_79, .ref q_84, .ref q_92, .ref q_102, .ref q_107])), (q_1, .inl (cA_2, 8192, .inl f_4))] := hD
  refine W.widen (k := 0) (n := 0) (Nat.le_of_ble_eq_true rfl) (Nat.le_of_ble_eq_true rfl) ?_
  exact W.vret hx hb hr (fun t ht hW => ⟨⟨(), rfl, trivial, f_4, by rw [ht]; exact hP, va_K.moved hW.alike hK, hD⟩, hS.F ht⟩) hS.2.2 dX11_putOnTape_69
def o_X11_put4 : List Cond := [.fieldLink RX11 9 "SsaForge" "tape" "[B", .fieldLink RX11 13 "SsaForge" "tapeLength" "I"]
def v_X11_put4 : List Cond := .code yX11_putOnTape cX11_putOnTape 2 none :: (o_X11_put4 ++ (wsX110 ++ []))
theorem mow_X11_put4 : ∀ w ∈ o_X11_put4, w ∈ v_X11_put4 := fun _ h => List.mem_cons_of_mem _ (List.mem_append_left _ h)
theorem mem_X11_put4_0 : ∀ w ∈ wsX110, w ∈ v_X11_put4 := fun _ h => List.mem_cons_of_mem _ (List.mem_append_right _ (List.mem_append_left _ h))
set_option maxRecDepth 20000 in
theorem gw_X11_put4 : v_X11_put4.all goodWord = true := by decide +kernel
set_option maxHeartbeats 4000000 in
set_option maxRecDepth 100000 in
theorem c_X11_put4 (l : Launch) (dC : Nat → ClassId) (dI : Nat → Nat → Nat) (h0 : Nat) (q_1 : Nat) (q_3 : Nat) (q_21 : Nat) (q_39 : Nat) (q_52 : Nat) (q_60 : Nat) (q_66 : Nat) (q_73 : Nat) (q_79 : Nat) (q_84 : Nat) (q_92 : Nat) (q_102 : Nat) (q_107 : Nat) (cA_2 : ClassId) (f_0 : Nat → Int32) (p0 : Int32) (sz : Nat) : Met l yX11_putOnTape v_X11_put4 ({ frames := 0, cells := 0, slots := 0, locals := 0 }) (va_Pc [.ref h0, .int p0] (fun U => U.heap.size = sz ∧ va_P (dC, dI) vwP [(h0, .inr (11, [.ref q_1, .int 4, .int (-1), .ref q_3, .ref q_21, .ref q_39, .int 0, .ref q_52, .int 0, .ref q_60, .ref q_66, .ref q_73, .ref q_79, .ref q_84, .ref q_92, .ref q_102, .ref q_107])), (q_1, .inl (cA_2, 8192, .inl f_0))] U.heap ∧ va_K (dC, dI) vwP [(cA_2, .byte)] U ∧ va_D (fun _ => True) [(h0, .inr (11, [.ref q_1, .int 4, .int (-1), .ref q_3, .ref q_21, .ref q_39, .int 0, .ref q_52, .int 0, .ref q_60, .ref q_66, .ref q_73, .ref q_79, .ref q_84, .ref q_92, .ref q_102, .ref q_107])), (q_1, .inl (cA_2, 8192, .inl f_0))])) (va_Qv (fun _ : Unit => True) (fun (_ : Unit) (t : State) => ∃ (g0_9 : Nat → Int32), va_P (dC, dI) vwP [(h0, .inr (11, [.ref q_1, .int 8, .int (-1), .ref q_3, .ref q_21, .ref q_39, .int 0, .ref q_52, .int 0, .ref q_60, .ref q_66, .ref q_73, .ref q_79, .ref q_84, .ref q_92, .ref q_102, .ref q_107])), (q_1, .inl (cA_2, 8192, .inl g0_9))] t.heap ∧ va_K (dC, dI) vwP [(cA_2, .byte)] t ∧ va_D (va_A [(h0, .inr (11, [.ref q_1, .int 4, .int (-1), .ref q_3, .ref q_21, .ref q_39, .int 0, .ref q_52, .int 0, .ref q_60, .ref q_66, .ref q_73, .ref q_79, .ref q_84, .ref q_92, .ref q_102, .ref q_107])), (q_1, .inl (cA_2, 8192, .inl f_0))] sz) [(h0, .inr (11, [.ref q_1, .int 8, .int (-1), .ref q_3, .ref q_21, .ref q_39, .int 0, .ref q_52, .int 0, .ref q_60, .ref q_66, .ref q_73, .ref q_79, .ref q_84, .ref q_92, .ref q_102, .ref q_107])), (q_1, .inl (cA_2, 8192, .inl g0_9))]) (va_A [(h0, .inr (11, [.ref q_1, .int 4, .int (-1), .ref q_3, .ref q_21, .ref q_39, .int 0, .ref q_52, .int 0, .ref q_60, .ref q_66, .ref q_73, .ref q_79, .ref q_84, .ref q_92, .ref q_102, .ref q_107])), (q_1, .inl (cA_2, 8192, .inl f_0))] sz)) 0 0 (va_A [(h0, .inr (11, [.ref q_1, .int 4, .int (-1), .ref q_3, .ref q_21, .ref q_39, .int 0, .ref q_52, .int 0, .ref q_60, .ref q_66, .ref q_73, .ref q_79, .ref q_84, .ref q_92, .ref q_102, .ref q_107])), (q_1, .inl (cA_2, 8192, .inl f_0))] sz) := by
  refine Met.ofW (cc := cX11_putOnTape) (maxL := 2) (ret := none) (by decide) rfl ?_
  intro p e s m args below meth c s₁ B hml hv
  obtain ⟨rfl, hsz, hP, hK, hD0⟩ := hv
  have hx := B.exec
  have hb := B.bytes
  have hr := B.returns
  have hts := atoms_spec (ws := v_X11_put4) B.pre
  have hown : s.vm.findClass RX11 = some m.cls := findClass_of_methodNamed B.named
  have hlocks := B.notSynchronized
  have ow : ∀ {k : Nat} {w : Cond}, o_X11_put4[k]? = some w → w.before ([.ref h0, .int p0] : List Value).toArray s = true := fun h => hts _ (mow_X11_put4 _ (List.mem_of_getElem? h))
  subst hsz
  have hD := hD0.self (sz := s.heap.size)
  generalize hAe : va_A [(h0, .inr (11, [.ref q_1, .int 4, .int (-1), .ref q_3, .ref q_21, .ref q_39, .int 0, .ref q_52, .int 0, .ref q_60, .ref q_66, .ref q_73, .ref q_79, .ref q_84, .ref q_92, .ref q_102, .ref q_107])), (q_1, .inl (cA_2, 8192, .inl f_0))] s.heap.size = A at hD ⊢
  have hA : ∀ q : Nat, s.heap.size ≤ q → A q := fun q h => by rw [← hAe]; exact Or.inr h
  have hS : va_S A s.heap s.heap [] := va_S.rf
  have hP : va_P (dC, dI) vwP [(h0, .inr (11, [.ref q_1, .int 4, .int (-1), .ref q_3, .ref q_21, .ref q_39, .int 0, .ref q_52, .int 0, .ref q_60, .ref q_66, .ref q_73, .ref q_79, .ref q_84, .ref q_92, .ref q_102, .ref q_107])), (q_1, .inl (cA_2, 8192, .inl f_0))] s.heap := hP
  have hl := lv_entry ([.ref h0, .int p0]) (n := 2) (Nat.le_of_ble_eq_true rfl)
  rw [lg_entry_eq]
  generalize (lg_sl ([.ref h0, .int p0]) ++ List.replicate (2 - (lg_sl ([.ref h0, .int p0])).length) Slot.unset).toArray = ls at hl ⊢
  have hl : lv_has ls 2 [(0, .ref h0), (1, .int p0)] := hl
  obtain ⟨H, hH⟩ : ∃ H, H = s.heap := ⟨_, rfl⟩
  rw [← hH] at hP
  have hS : va_S A s.heap H [] := by rw [hH]; exact hS
  rw [← hH]
  refine lv_aload_n hx hb dX11_putOnTape_0 rfl (lv_at hl 0 rfl) ?_
  refine va_get (D := (dC, dI)) (ci := 11) (v := .ref q_1) (C := RX11) (T := TX11) (N := 17) hx hb hts mem_X11_put4_0 hown hK hP 0 rfl rfl 0 (by decide) (ow (k := 0) rfl) (fun _ h9 => h9) rfl dX11_putOnTape_1 ?_
  refine lv_aload_n hx hb dX11_putOnTape_4 rfl (lv_at hl 0 rfl) ?_
  refine va_get (D := (dC, dI)) (ci := 11) (v := .int 4) (C := RX11) (T := TX11) (N := 17) hx hb hts mem_X11_put4_0 hown hK hP 0 rfl rfl 1 (by decide) (ow (k := 1) rfl) (fun _ h9 => h9) rfl dX11_putOnTape_5 ?_
  refine lv_iload_n hx hb dX11_putOnTape_8 rfl (lv_at hl 1 rfl) ?_
  refine lv_bipush (v := 24) hx hb dX11_putOnTape_9 (by decide) ?_
  refine lv_ishr hx hb dX11_putOnTape_11 ?_
  refine lv_i2b hx hb dX11_putOnTape_12 rfl ?_
  refine va_bast hx hb hK hP hD hS 1 0 rfl rfl (show vp_in 4 8192 by rw [vp_in_iff]; decide) dX11_putOnTape_13 (fun H locs hP hD hS => ?_)
  have hP : va_P (dC, dI) vwP [(h0, .inr (11, [.ref q_1, .int 4, .int (-1), .ref q_3, .ref q_21, .ref q_39, .int 0, .ref q_52, .int 0, .ref q_60, .ref q_66, .ref q_73, .ref q_79, .ref q_84, .ref q_92, .ref q_102, .ref q_107])), (q_1, .inl (cA_2, 8192, .inl (upd f_0 (4 : Int32).toNatClampNeg (vp_nar .byte ((p0 >>> (24 &&& 31)).toInt8.toInt32)))))] H := hP
  have hD : va_D A [(h0, .inr (11, [.ref q_1, .int 4, .int (-1), .ref q_3, .ref q_21, .ref q_39, .int 0, .ref q_52, .int 0, .ref q_60, .ref q_66, .ref q_73, .ref q_79, .ref q_84, .ref q_92, .ref q_102, .ref q_107])), (q_1, .inl (cA_2, 8192, .inl (upd f_0 (4 : Int32).toNatClampNeg (vp_nar .byte ((p0 >>> (24 &&& 31)).toInt8.toInt32)))))] := hD
  generalize (upd f_0 (4 : Int32).toNatClampNeg (vp_nar .byte ((p0 >>> (24 &&& 31)).toInt8.toInt32))) = f_1 at hP hD
  refine lv_aload_n hx hb dX11_putOnTape_14 rfl (lv_at hl 0 rfl) ?_
  refine va_get (D := (dC, dI)) (ci := 11) (v := .ref q_1) (C := RX11) (T := TX11) (N := 17) hx hb hts mem_X11_put4_0 hown hK hP 0 rfl rfl 0 (by decide) (ow (k := 0) rfl) (fun _ h9 => h9) rfl dX11_putOnTape_15 ?_
  refine lv_aload_n hx hb dX11_putOnTape_18 rfl (lv_at hl 0 rfl) ?_
  refine va_get (D := (dC, dI)) (ci := 11) (v := .int 4) (C := RX11) (T := TX11) (N := 17) hx hb hts mem_X11_put4_0 hown hK hP 0 rfl rfl 1 (by decide) (ow (k := 1) rfl) (fun _ h9 => h9) rfl dX11_putOnTape_19 ?_
  refine lv_iconst (v := 1) hx hb dX11_putOnTape_22 (by decide) ?_
  refine lv_iadd hx hb dX11_putOnTape_23 ?_
  refine lv_topi (fun z ez => ?_)
  obtain rfl : z = 5 := by rw [ez]; decide
  refine lv_iload_n hx hb dX11_putOnTape_24 rfl (lv_at hl 1 rfl) ?_
  refine lv_bipush (v := 16) hx hb dX11_putOnTape_25 (by decide) ?_
  refine lv_ishr hx hb dX11_putOnTape_27 ?_
  refine lv_i2b hx hb dX11_putOnTape_28 rfl ?_
  refine va_bast hx hb hK hP hD hS 1 0 rfl rfl (show vp_in 5 8192 by rw [vp_in_iff]; decide) dX11_putOnTape_29 (fun H locs hP hD hS => ?_)
  have hP : va_P (dC, dI) vwP [(h0, .inr (11, [.ref q_1, .int 4, .int (-1), .ref q_3, .ref q_21, .ref q_39, .int 0, .ref q_52, .int 0, .ref q_60, .ref q_66, .ref q_73, .ref q_79, .ref q_84, .ref q_92, .ref q_102, .ref q_107])), (q_1, .inl (cA_2, 8192, .inl (upd f_1 (5 : Int32).toNatClampNeg (vp_nar .byte ((p0 >>> (16 &&& 31)).toInt8.toInt32)))))] H := hP
  have hD : va_D A [(h0, .inr (11, [.ref q_1, .int 4, .int (-1), .ref q_3, .ref q_21, .ref q_39, .int 0, .ref q_52, .int 0, .ref q_60, .ref q_66, .ref q_73, .ref q_79, .ref q_84, .ref q_92, .ref q_102, .ref q_107])), (q_1, .inl (cA_2, 8192, .inl (upd f_1 (5 : Int32).toNatClampNeg (vp_nar .byte ((p0 >>> (16 &&& 31)).toInt8.toInt32)))))] := hD
  generalize (upd f_1 (5 : Int32).toNatClampNeg (vp_nar .byte ((p0 >>> (16 &&& 31)).toInt8.toInt32))) = f_2 at hP hD
  refine lv_aload_n hx hb dX11_putOnTape_30 rfl (lv_at hl 0 rfl) ?_
  refine va_get (D := (dC, dI)) (ci := 11) (v := .ref q_1) (C := RX11) (T := TX11) (N := 17) hx hb hts mem_X11_put4_0 hown hK hP 0 rfl rfl 0 (by decide) (ow (k := 0) rfl) (fun _ h9 => h9) rfl dX11_putOnTape_31 ?_
  refine lv_aload_n hx hb dX11_putOnTape_34 rfl (lv_at hl 0 rfl) ?_
  refine va_get (D := (dC, dI)) (ci := 11) (v := .int 4) (C := RX11) (T := TX11) (N := 17) hx hb hts mem_X11_put4_0 hown hK hP 0 rfl rfl 1 (by decide) (ow (k := 1) rfl) (fun _ h9 => h9) rfl dX11_putOnTape_35 ?_
  refine lv_iconst (v := 2) hx hb dX11_putOnTape_38 (by decide) ?_
  refine lv_iadd hx hb dX11_putOnTape_39 ?_
  refine lv_topi (fun z ez => ?_)
  obtain rfl : z = 6 := by rw [ez]; decide
  refine lv_iload_n hx hb dX11_putOnTape_40 rfl (lv_at hl 1 rfl) ?_
  refine lv_bipush (v := 8) hx hb dX11_putOnTape_41 (by decide) ?_
  refine lv_ishr hx hb dX11_putOnTape_43 ?_
  refine lv_i2b hx hb dX11_putOnTape_44 rfl ?_
  refine va_bast hx hb hK hP hD hS 1 0 rfl rfl (show vp_in 6 8192 by rw [vp_in_iff]; decide) dX11_putOnTape_45 (fun H locs hP hD hS => ?_)
  have hP : va_P (dC, dI) vwP [(h0, .inr (11, [.ref q_1, .int 4, .int (-1), .ref q_3, .ref q_21, .ref q_39, .int 0, .ref q_52, .int 0, .ref q_60, .ref q_66, .ref q_73, .ref q_79, .ref q_84, .ref q_92, .ref q_102, .ref q_107])), (q_1, .inl (cA_2, 8192, .inl (upd f_2 (6 : Int32).toNatClampNeg (vp_nar .byte ((p0 >>> (8 &&& 31)).toInt8.toInt32)))))] H := hP
  have hD : va_D A [(h0, .inr (11, [.ref q_1, .int 4, .int (-1), .ref q_3, .ref q_21, .ref q_39, .int 0, .ref q_52, .int 0, .ref q_60, .ref q_66, .ref q_73, .ref q_79, .ref q_84, .ref q_92, .ref q_102, .ref q_107])), (q_1, .inl (cA_2, 8192, .inl (upd f_2 (6 : Int32).toNatClampNeg (vp_nar .byte ((p0 >>> (8 &&& 31)).toInt8.toInt32)))))] := hD
  generalize (upd f_2 (6 : Int32).toNatClampNeg (vp_nar .byte ((p0 >>> (8 &&& 31)).toInt8.toInt32))) = f_3 at hP hD
  refine lv_aload_n hx hb dX11_putOnTape_46 rfl (lv_at hl 0 rfl) ?_
  refine va_get (D := (dC, dI)) (ci := 11) (v := .ref q_1) (C := RX11) (T := TX11) (N := 17) hx hb hts mem_X11_put4_0 hown hK hP 0 rfl rfl 0 (by decide) (ow (k := 0) rfl) (fun _ h9 => h9) rfl dX11_putOnTape_47 ?_
  refine lv_aload_n hx hb dX11_putOnTape_50 rfl (lv_at hl 0 rfl) ?_
  refine va_get (D := (dC, dI)) (ci := 11) (v := .int 4) (C := RX11) (T := TX11) (N := 17) hx hb hts mem_X11_put4_0 hown hK hP 0 rfl rfl 1 (by decide) (ow (k := 1) rfl) (fun _ h9 => h9) rfl dX11_putOnTape_51 ?_
  refine lv_iconst (v := 3) hx hb dX11_putOnTape_54 (by decide) ?_
  refine lv_iadd hx hb dX11_putOnTape_55 ?_
  refine lv_topi (fun z ez => ?_)
  obtain rfl : z = 7 := by rw [ez]; decide
  refine lv_iload_n hx hb dX11_putOnTape_56 rfl (lv_at hl 1 rfl) ?_
  refine lv_i2b hx hb dX11_putOnTape_57 rfl ?_
  refine va_bast hx hb hK hP hD hS 1 0 rfl rfl (show vp_in 7 8192 by rw [vp_in_iff]; decide) dX11_putOnTape_58 (fun H locs hP hD hS => ?_)
  have hP : va_P (dC, dI) vwP [(h0, .inr (11, [.ref q_1, .int 4, .int (-1), .ref q_3, .ref q_21, .ref q_39, .int 0, .ref q_52, .int 0, .ref q_60, .ref q_66, .ref q_73, .ref q_79, .ref q_84, .ref q_92, .ref q_102, .ref q_107])), (q_1, .inl (cA_2, 8192, .inl (upd f_3 (7 : Int32).toNatClampNeg (vp_nar .byte (p0.toInt8.toInt32)))))] H := hP
  have hD : va_D A [(h0, .inr (11, [.ref q_1, .int 4, .int (-1), .ref q_3, .ref q_21, .ref q_39, .int 0, .ref q_52, .int 0, .ref q_60, .ref q_66, .ref q_73, .ref q_79, .ref q_84, .ref q_92, .ref q_102, .ref q_107])), (q_1, .inl (cA_2, 8192, .inl (upd f_3 (7 : Int32).toNatClampNeg (vp_nar .byte (p0.toInt8.toInt32)))))] := hD
  generalize (upd f_3 (7 : Int32).toNatClampNeg (vp_nar .byte (p0.toInt8.toInt32))) = f_4 at hP hD
  refine lv_aload_n hx hb dX11_putOnTape_59 rfl (lv_at hl 0 rfl) ?_
  refine lv_dup hx hb dX11_putOnTape_60 rfl ?_
  refine va_get (D := (dC, dI)) (ci := 11) (v := .int 4) (C := RX11) (T := TX11) (N := 17) hx hb hts mem_X11_put4_0 hown hK hP 0 rfl rfl 1 (by decide) (ow (k := 1) rfl) (fun _ h9 => h9) rfl dX11_putOnTape_61 ?_
  refine lv_iconst (v := 4) hx hb dX11_putOnTape_64 (by decide) ?_
  refine lv_iadd hx hb dX11_putOnTape_65 ?_
  refine lv_topi (fun z ez => ?_)
  obtain rfl : z = 8 := by rw [ez]; decide
  refine va_put (D := (dC, dI)) (ci := 11) (v := .int 8) (ty := .int) (C := RX11) (T := TX11) (N := 17) hx hb hts mem_X11_put4_0 tyX11 tyX11_ok nmX11 hown hK hP hD hS 0 rfl rfl 1 (by decide) (ow (k := 1) rfl) (fun _ h9 => h9) rfl (by decide +kernel) rfl rfl (Nat.le_of_ble_eq_true rfl) dX11_putOnTape_66 (fun H locs hP hD hS => ?_)
  have hP : va_P (dC, dI) vwP [(h0, .inr (11, [.ref q_1, .int 8, .int (-1), .ref q_3, .ref q_21, .ref q_39, .int 0, .ref q_52, .int 0, .ref q_60, .ref q_66, .ref q_73, .ref q_79, .ref q_84, .ref q_92, .ref q_102, .ref q_107])), (q_1, .inl (cA_2, 8192, .inl f_4))] H := hP
  have hD : va_D A [(h0, .inr (11, [.ref q_1, .int 8, .int (-1), .ref q_3, .ref q_21, .ref q_39, .int 0, .ref q_52, .int 0, .ref q_60, .ref q_66, .ref q_73, .ref q_79, .ref q_84, .ref q_92, .ref q_102, .ref q_107])), (q_1, .inl (cA_2, 8192, .inl f_4))] := hD
  refine W.widen (k := 0) (n := 0) (Nat.le_of_ble_eq_true rfl) (Nat.le_of_ble_eq_true rfl) ?_
  exact W.vret hx hb hr (fun t ht hW => ⟨⟨(), rfl, trivial, f_4, by rw [ht]; exact hP, va_K.moved hW.alike hK, hD⟩, hS.F ht⟩) hS.2.2 dX11_putOnTape_69
def o_X11_put8 : List Cond := [.fieldLink RX11 9 "SsaForge" "tape" "[B", .fieldLink RX11 13 "SsaForge" "tapeLength" "I"]
def v_X11_put8 : List Cond := .code yX11_putOnTape cX11_putOnTape 2 none :: (o_X11_put8 ++ (wsX110 ++ []))
theorem mow_X11_put8 : ∀ w ∈ o_X11_put8, w ∈ v_X11_put8 := fun _ h => List.mem_cons_of_mem _ (List.mem_append_left _ h)
theorem mem_X11_put8_0 : ∀ w ∈ wsX110, w ∈ v_X11_put8 := fun _ h => List.mem_cons_of_mem _ (List.mem_append_right _ (List.mem_append_left _ h))
set_option maxRecDepth 20000 in
theorem gw_X11_put8 : v_X11_put8.all goodWord = true := by decide +kernel
set_option maxHeartbeats 4000000 in
set_option maxRecDepth 100000 in
theorem c_X11_put8 (l : Launch) (dC : Nat → ClassId) (dI : Nat → Nat → Nat) (h0 : Nat) (q_1 : Nat) (q_3 : Nat) (q_21 : Nat) (q_39 : Nat) (q_52 : Nat) (q_60 : Nat) (q_66 : Nat) (q_73 : Nat) (q_79 : Nat) (q_84 : Nat) (q_92 : Nat) (q_102 : Nat) (q_107 : Nat) (cA_2 : ClassId) (f_0 : Nat → Int32) (p0 : Int32) (sz : Nat) : Met l yX11_putOnTape v_X11_put8 ({ frames := 0, cells := 0, slots := 0, locals := 0 }) (va_Pc [.ref h0, .int p0] (fun U => U.heap.size = sz ∧ va_P (dC, dI) vwP [(h0, .inr (11, [.ref q_1, .int 8, .int (-1), .ref q_3, .ref q_21, .ref q_39, .int 0, .ref q_52, .int 0, .ref q_60, .ref q_66, .ref q_73, .ref q_79, .ref q_84, .ref q_92, .ref q_102, .ref q_107])), (q_1, .inl (cA_2, 8192, .inl f_0))] U.heap ∧ va_K (dC, dI) vwP [(cA_2, .byte)] U ∧ va_D (fun _ => True) [(h0, .inr (11, [.ref q_1, .int 8, .int (-1), .ref q_3, .ref q_21, .ref q_39, .int 0, .ref q_52, .int 0, .ref q_60, .ref q_66, .ref q_73, .ref q_79, .ref q_84, .ref q_92, .ref q_102, .ref q_107])), (q_1, .inl (cA_2, 8192, .inl f_0))])) (va_Qv (fun _ : Unit => True) (fun (_ : Unit) (t : State) => ∃ (g0_9 : Nat → Int32), va_P (dC, dI) vwP [(h0, .inr (11, [.ref q_1, .int 12, .int (-1), .ref q_3, .ref q_21, .ref q_39, .int 0, .ref q_52, .int 0, .ref q_60, .ref q_66, .ref q_73, .ref q_79, .ref q_84, .ref q_92, .ref q_102, .ref q_107])), (q_1, .inl (cA_2, 8192, .inl g0_9))] t.heap ∧ va_K (dC, dI) vwP [(cA_2, .byte)] t ∧ va_D (va_A [(h0, .inr (11, [.ref q_1, .int 8, .int (-1), .ref q_3, .ref q_21, .ref q_39, .int 0, .ref q_52, .int 0, .ref q_60, .ref q_66, .ref q_73, .ref q_79, .ref q_84, .ref q_92, .ref q_102, .ref q_107])), (q_1, .inl (cA_2, 8192, .inl f_0))] sz) [(h0, .inr (11, [.ref q_1, .int 12, .int (-1), .ref q_3, .ref q_21, .ref q_39, .int 0, .ref q_52, .int 0, .ref q_60, .ref q_66, .ref q_73, .ref q_79, .ref q_84, .ref q_92, .ref q_102, .ref q_107])), (q_1, .inl (cA_2, 8192, .inl g0_9))]) (va_A [(h0, .inr (11, [.ref q_1, .int 8, .int (-1), .ref q_3, .ref q_21, .ref q_39, .int 0, .ref q_52, .int 0, .ref q_60, .ref q_66, .ref q_73, .ref q_79, .ref q_84, .ref q_92, .ref q_102, .ref q_107])), (q_1, .inl (cA_2, 8192, .inl f_0))] sz)) 0 0 (va_A [(h0, .inr (11, [.ref q_1, .int 8, .int (-1), .ref q_3, .ref q_21, .ref q_39, .int 0, .ref q_52, .int 0, .ref q_60, .ref q_66, .ref q_73, .ref q_79, .ref q_84, .ref q_92, .ref q_102, .ref q_107])), (q_1, .inl (cA_2, 8192, .inl f_0))] sz) := by
  refine Met.ofW (cc := cX11_putOnTape) (maxL := 2) (ret := none) (by decide) rfl ?_
  intro p e s m args below meth c s₁ B hml hv
  obtain ⟨rfl, hsz, hP, hK, hD0⟩ := hv
  have hx := B.exec
  have hb := B.bytes
  have hr := B.returns
  have hts := atoms_spec (ws := v_X11_put8) B.pre
  have hown : s.vm.findClass RX11 = some m.cls := findClass_of_methodNamed B.named
  have hlocks := B.notSynchronized
  have ow : ∀ {k : Nat} {w : Cond}, o_X11_put8[k]? = some w → w.before ([.ref h0, .int p0] : List Value).toArray s = true := fun h => hts _ (mow_X11_put8 _ (List.mem_of_getElem? h))
  subst hsz
  have hD := hD0.self (sz := s.heap.size)
  generalize hAe : va_A [(h0, .inr (11, [.ref q_1, .int 8, .int (-1), .ref q_3, .ref q_21, .ref q_39, .int 0, .ref q_52, .int 0, .ref q_60, .ref q_66, .ref q_73, .ref q_79, .ref q_84, .ref q_92, .ref q_102, .ref q_107])), (q_1, .inl (cA_2, 8192, .inl f_0))] s.heap.size = A at hD ⊢
  have hA : ∀ q : Nat, s.heap.size ≤ q → A q := fun q h => by rw [← hAe]; exact Or.inr h
  have hS : va_S A s.heap s.heap [] := va_S.rf
  have hP : va_P (dC, dI) vwP [(h0, .inr (11, [.ref q_1, .int 8, .int (-1), .ref q_3, .ref q_21, .ref q_39, .int 0, .ref q_52, .int 0, .ref q_60, .ref q_66, .ref q_73, .ref q_79, .ref q_84, .ref q_92, .ref q_102, .ref q_107])), (q_1, .inl (cA_2, 8192, .inl f_0))] s.heap := hP
  have hl := lv_entry ([.ref h0, .int p0]) (n := 2) (Nat.le_of_ble_eq_true rfl)
  rw [lg_entry_eq]
  generalize (lg_sl ([.ref h0, .int p0]) ++ List.replicate (2 - (lg_sl ([.ref h0, .int p0])).length) Slot.unset).toArray = ls at hl ⊢
  have hl : lv_has ls 2 [(0, .ref h0), (1, .int p0)] := hl
  obtain ⟨H, hH⟩ : ∃ H, H = s.heap := ⟨_, rfl⟩
  rw [← hH] at hP
  have hS : va_S A s.heap H [] := by rw [hH]; exact hS
  rw [← hH]
  refine lv_aload_n hx hb dX11_putOnTape_0 rfl (lv_at hl 0 rfl) ?_
  refine va_get (D := (dC, dI)) (ci := 11) (v := .ref q_1) (C := RX11) (T := TX11) (N := 17) hx hb hts mem_X11_put8_0 hown hK hP 0 rfl rfl 0 (by decide) (ow (k := 0) rfl) (fun _ h9 => h9) rfl dX11_putOnTape_1 ?_
  refine lv_aload_n hx hb dX11_putOnTape_4 rfl (lv_at hl 0 rfl) ?_
  refine va_get (D := (dC, dI)) (ci := 11) (v := .int 8) (C := RX11) (T := TX11) (N := 17) hx hb hts mem_X11_put8_0 hown hK hP 0 rfl rfl 1 (by decide) (ow (k := 1) rfl) (fun _ h9 => h9) rfl dX11_putOnTape_5 ?_
  refine lv_iload_n hx hb dX11_putOnTape_8 rfl (lv_at hl 1 rfl) ?_
  refine lv_bipush (v := 24) hx hb dX11_putOnTape_9 (by decide) ?_
  refine lv_ishr hx hb dX11_putOnTape_11 ?_
  refine lv_i2b hx hb dX11_putOnTape_12 rfl ?_
  refine va_bast hx hb hK hP hD hS 1 0 rfl rfl (show vp_in 8 8192 by rw [vp_in_iff]; decide) dX11_putOnTape_13 (fun H locs hP hD hS => ?_)
  have hP : va_P (dC, dI) vwP [(h0, .inr (11, [.ref q_1, .int 8, .int (-1), .ref q_3, .ref q_21, .ref q_39, .int 0, .ref q_52, .int 0, .ref q_60, .ref q_66, .ref q_73, .ref q_79, .ref q_84, .ref q_92, .ref q_102, .ref q_107])), (q_1, .inl (cA_2, 8192, .inl (upd f_0 (8 : Int32).toNatClampNeg (vp_nar .byte ((p0 >>> (24 &&& 31)).toInt8.toInt32)))))] H := hP
  have hD : va_D A [(h0, .inr (11, [.ref q_1, .int 8, .int (-1), .ref q_3, .ref q_21, .ref q_39, .int 0, .ref q_52, .int 0, .ref q_60, .ref q_66, .ref q_73, .ref q_79, .ref q_84, .ref q_92, .ref q_102, .ref q_107])), (q_1, .inl (cA_2, 8192, .inl (upd f_0 (8 : Int32).toNatClampNeg (vp_nar .byte ((p0 >>> (24 &&& 31)).toInt8.toInt32)))))] := hD
  generalize (upd f_0 (8 : Int32).toNatClampNeg (vp_nar .byte ((p0 >>> (24 &&& 31)).toInt8.toInt32))) = f_1 at hP hD
  refine lv_aload_n hx hb dX11_putOnTape_14 rfl (lv_at hl 0 rfl) ?_
  refine va_get (D := (dC, dI)) (ci := 11) (v := .ref q_1) (C := RX11) (T := TX11) (N := 17) hx hb hts mem_X11_put8_0 hown hK hP 0 rfl rfl 0 (by decide) (ow (k := 0) rfl) (fun _ h9 => h9) rfl dX11_putOnTape_15 ?_
  refine lv_aload_n hx hb dX11_putOnTape_18 rfl (lv_at hl 0 rfl) ?_
  refine va_get (D := (dC, dI)) (ci := 11) (v := .int 8) (C := RX11) (T := TX11) (N := 17) hx hb hts mem_X11_put8_0 hown hK hP 0 rfl rfl 1 (by decide) (ow (k := 1) rfl) (fun _ h9 => h9) rfl dX11_putOnTape_19 ?_
  refine lv_iconst (v := 1) hx hb dX11_putOnTape_22 (by decide) ?_
  refine lv_iadd hx hb dX11_putOnTape_23 ?_
  refine lv_topi (fun z ez => ?_)
  obtain rfl : z = 9 := by rw [ez]; decide
  refine lv_iload_n hx hb dX11_putOnTape_24 rfl (lv_at hl 1 rfl) ?_
  refine lv_bipush (v := 16) hx hb dX11_putOnTape_25 (by decide) ?_
  refine lv_ishr hx hb dX11_putOnTape_27 ?_
  refine lv_i2b hx hb dX11_putOnTape_28 rfl ?_
  refine va_bast hx hb hK hP hD hS 1 0 rfl rfl (show vp_in 9 8192 by rw [vp_in_iff]; decide) dX11_putOnTape_29 (fun H locs hP hD hS => ?_)
  have hP : va_P (dC, dI) vwP [(h0, .inr (11, [.ref q_1, .int 8, .int (-1), .ref q_3, .ref q_21, .ref q_39, .int 0, .ref q_52, .int 0, .ref q_60, .ref q_66, .ref q_73, .ref q_79, .ref q_84, .ref q_92, .ref q_102, .ref q_107])), (q_1, .inl (cA_2, 8192, .inl (upd f_1 (9 : Int32).toNatClampNeg (vp_nar .byte ((p0 >>> (16 &&& 31)).toInt8.toInt32)))))] H := hP
  have hD : va_D A [(h0, .inr (11, [.ref q_1, .int 8, .int (-1), .ref q_3, .ref q_21, .ref q_39, .int 0, .ref q_52, .int 0, .ref q_60, .ref q_66, .ref q_73, .ref q_79, .ref q_84, .ref q_92, .ref q_102, .ref q_107])), (q_1, .inl (cA_2, 8192, .inl (upd f_1 (9 : Int32).toNatClampNeg (vp_nar .byte ((p0 >>> (16 &&& 31)).toInt8.toInt32)))))] := hD
  generalize (upd f_1 (9 : Int32).toNatClampNeg (vp_nar .byte ((p0 >>> (16 &&& 31)).toInt8.toInt32))) = f_2 at hP hD
  refine lv_aload_n hx hb dX11_putOnTape_30 rfl (lv_at hl 0 rfl) ?_
  refine va_get (D := (dC, dI)) (ci := 11) (v := .ref q_1) (C := RX11) (T := TX11) (N := 17) hx hb hts mem_X11_put8_0 hown hK hP 0 rfl rfl 0 (by decide) (ow (k := 0) rfl) (fun _ h9 => h9) rfl dX11_putOnTape_31 ?_
  refine lv_aload_n hx hb dX11_putOnTape_34 rfl (lv_at hl 0 rfl) ?_
  refine va_get (D := (dC, dI)) (ci := 11) (v := .int 8) (C := RX11) (T := TX11) (N := 17) hx hb hts mem_X11_put8_0 hown hK hP 0 rfl rfl 1 (by decide) (ow (k := 1) rfl) (fun _ h9 => h9) rfl dX11_putOnTape_35 ?_
  refine lv_iconst (v := 2) hx hb dX11_putOnTape_38 (by decide) ?_
  refine lv_iadd hx hb dX11_putOnTape_39 ?_
  refine lv_topi (fun z ez => ?_)
  obtain rfl : z = 10 := by rw [ez]; decide
  refine lv_iload_n hx hb dX11_putOnTape_40 rfl (lv_at hl 1 rfl) ?_
  refine lv_bipush (v := 8) hx hb dX11_putOnTape_41 (by decide) ?_
  refine lv_ishr hx hb dX11_putOnTape_43 ?_
  refine lv_i2b hx hb dX11_putOnTape_44 rfl ?_
  refine va_bast hx hb hK hP hD hS 1 0 rfl rfl (show vp_in 10 8192 by rw [vp_in_iff]; decide) dX11_putOnTape_45 (fun H locs hP hD hS => ?_)
  have hP : va_P (dC, dI) vwP [(h0, .inr (11, [.ref q_1, .int 8, .int (-1), .ref q_3, .ref q_21, .ref q_39, .int 0, .ref q_52, .int 0, .ref q_60, .ref q_66, .ref q_73, .ref q_79, .ref q_84, .ref q_92, .ref q_102, .ref q_107])), (q_1, .inl (cA_2, 8192, .inl (upd f_2 (10 : Int32).toNatClampNeg (vp_nar .byte ((p0 >>> (8 &&& 31)).toInt8.toInt32)))))] H := hP
  have hD : va_D A [(h0, .inr (11, [.ref q_1, .int 8, .int (-1), .ref q_3, .ref q_21, .ref q_39, .int 0, .ref q_52, .int 0, .ref q_60, .ref q_66, .ref q_73, .ref q_79, .ref q_84, .ref q_92, .ref q_102, .ref q_107])), (q_1, .inl (cA_2, 8192, .inl (upd f_2 (10 : Int32).toNatClampNeg (vp_nar .byte ((p0 >>> (8 &&& 31)).toInt8.toInt32)))))] := hD
  generalize (upd f_2 (10 : Int32).toNatClampNeg (vp_nar .byte ((p0 >>> (8 &&& 31)).toInt8.toInt32))) = f_3 at hP hD
  refine lv_aload_n hx hb dX11_putOnTape_46 rfl (lv_at hl 0 rfl) ?_
  refine va_get (D := (dC, dI)) (ci := 11) (v := .ref q_1) (C := RX11) (T := TX11) (N := 17) hx hb hts mem_X11_put8_0 hown hK hP 0 rfl rfl 0 (by decide) (ow (k := 0) rfl) (fun _ h9 => h9) rfl dX11_putOnTape_47 ?_
  refine lv_aload_n hx hb dX11_putOnTape_50 rfl (lv_at hl 0 rfl) ?_
  refine va_get (D := (dC, dI)) (ci := 11) (v := .int 8) (C := RX11) (T := TX11) (N := 17) hx hb hts mem_X11_put8_0 hown hK hP 0 rfl rfl 1 (by decide) (ow (k := 1) rfl) (fun _ h9 => h9) rfl dX11_putOnTape_51 ?_
  refine lv_iconst (v := 3) hx hb dX11_putOnTape_54 (by decide) ?_
  refine lv_iadd hx hb dX11_putOnTape_55 ?_
  refine lv_topi (fun z ez => ?_)
  obtain rfl : z = 11 := by rw [ez]; decide
  refine lv_iload_n hx hb dX11_putOnTape_56 rfl (lv_at hl 1 rfl) ?_
  refine lv_i2b hx hb dX11_putOnTape_57 rfl ?_
  refine va_bast hx hb hK hP hD hS 1 0 rfl rfl (show vp_in 11 8192 by rw [vp_in_iff]; decide) dX11_putOnTape_58 (fun H locs hP hD hS => ?_)
  have hP : va_P (dC, dI) vwP [(h0, .inr (11, [.ref q_1, .int 8, .int (-1), .ref q_3, .ref q_21, .ref q_39, .int 0, .ref q_52, .int 0, .ref q_60, .ref q_66, .ref q_73, .ref q_79, .ref q_84, .ref q_92, .ref q_102, .ref q_107])), (q_1, .inl (cA_2, 8192, .inl (upd f_3 (11 : Int32).toNatClampNeg (vp_nar .byte (p0.toInt8.toInt32)))))] H := hP
  have hD : va_D A [(h0, .inr (11, [.ref q_1, .int 8, .int (-1), .ref q_3, .ref q_21, .ref q_39, .int 0, .ref q_52, .int 0, .ref q_60, .ref q_66, .ref q_73, .ref q_79, .ref q_84, .ref q_92, .ref q_102, .ref q_107])), (q_1, .inl (cA_2, 8192, .inl (upd f_3 (11 : Int32).toNatClampNeg (vp_nar .byte (p0.toInt8.toInt32)))))] := hD
  generalize (upd f_3 (11 : Int32).toNatClampNeg (vp_nar .byte (p0.toInt8.toInt32))) = f_4 at hP hD
  refine lv_aload_n hx hb dX11_putOnTape_59 rfl (lv_at hl 0 rfl) ?_
  refine lv_dup hx hb dX11_putOnTape_60 rfl ?_
  refine va_get (D := (dC, dI)) (ci := 11) (v := .int 8) (C := RX11) (T := TX11) (N := 17) hx hb hts mem_X11_put8_0 hown hK hP 0 rfl rfl 1 (by decide) (ow (k := 1) rfl) (fun _ h9 => h9) rfl dX11_putOnTape_61 ?_
  refine lv_iconst (v := 4) hx hb dX11_putOnTape_64 (by decide) ?_
  refine lv_iadd hx hb dX11_putOnTape_65 ?_
  refine lv_topi (fun z ez => ?_)
  obtain rfl : z = 12 := by rw [ez]; decide
  refine va_put (D := (dC, dI)) (ci := 11) (v := .int 12) (ty := .int) (C := RX11) (T := TX11) (N := 17) hx hb hts mem_X11_put8_0 tyX11 tyX11_ok nmX11 hown hK hP hD hS 0 rfl rfl 1 (by decide) (ow (k := 1) rfl) (fun _ h9 => h9) rfl (by decide +kernel) rfl rfl (Nat.le_of_ble_eq_true rfl) dX11_putOnTape_66 (fun H locs hP hD hS => ?_)
  have hP : va_P (dC, dI) vwP [(h0, .inr (11, [.ref q_1, .int 12, .int (-1), .ref q_3, .ref q_21, .ref q_39, .int 0, .ref q_52, .int 0, .ref q_60, .ref q_66, .ref q_73, .ref q_79, .ref q_84, .ref q_92, .ref q_102, .ref q_107])), (q_1, .inl (cA_2, 8192, .inl f_4))] H := hP
  have hD : va_D A [(h0, .inr (11, [.ref q_1, .int 12, .int (-1), .ref q_3, .ref q_21, .ref q_39, .int 0, .ref q_52, .int 0, .ref q_60, .ref q_66, .ref q_73, .ref q_79, .ref q_84, .ref q_92, .ref q_102, .ref q_107])), (q_1, .inl (cA_2, 8192, .inl f_4))] := hD
  refine W.widen (k := 0) (n := 0) (Nat.le_of_ble_eq_true rfl) (Nat.le_of_ble_eq_true rfl) ?_
  exact W.vret hx hb hr (fun t ht hW => ⟨⟨(), rfl, trivial, f_4, by rw [ht]; exact hP, va_K.moved hW.alike hK, hD⟩, hS.F ht⟩) hS.2.2 dX11_putOnTape_69
def o_X11_put12 : List Cond := [.fieldLink RX11 9 "SsaForge" "tape" "[B", .fieldLink RX11 13 "SsaForge" "tapeLength" "I"]
def v_X11_put12 : List Cond := .code yX11_putOnTape cX11_putOnTape 2 none :: (o_X11_put12 ++ (wsX110 ++ []))
theorem mow_X11_put12 : ∀ w ∈ o_X11_put12, w ∈ v_X11_put12 := fun _ h => List.mem_cons_of_mem _ (List.mem_append_left _ h)
theorem mem_X11_put12_0 : ∀ w ∈ wsX110, w ∈ v_X11_put12 := fun _ h => List.mem_cons_of_mem _ (List.mem_append_right _ (List.mem_append_left _ h))
set_option maxRecDepth 20000 in
theorem gw_X11_put12 : v_X11_put12.all goodWord = true := by decide +kernel
set_option maxHeartbeats 4000000 in
set_option maxRecDepth 100000 in
theorem c_X11_put12 (l : Launch) (dC : Nat → ClassId) (dI : Nat → Nat → Nat) (h0 : Nat) (q_1 : Nat) (q_3 : Nat) (q_21 : Nat) (q_39 : Nat) (q_52 : Nat) (q_60 : Nat) (q_66 : Nat) (q_73 : Nat) (q_79 : Nat) (q_84 : Nat) (q_92 : Nat) (q_102 : Nat) (q_107 : Nat) (cA_2 : ClassId) (f_0 : Nat → Int32) (p0 : Int32) (sz : Nat) : Met l yX11_putOnTape v_X11_put12 ({ frames := 0, cells := 0, slots := 0, locals := 0 }) (va_Pc [.ref h0, .int p0] (fun U => U.heap.size = sz ∧ va_P (dC, dI) vwP [(h0, .inr (11, [.ref q_1, .int 12, .int (-1), .ref q_3, .ref q_21, .ref q_39, .int 0, .ref q_52, .int 0, .ref q_60, .ref q_66, .ref q_73, .ref q_79, .ref q_84, .ref q_92, .ref q_102, .ref q_107])), (q_1, .inl (cA_2, 8192, .inl f_0))] U.heap ∧ va_K (dC, dI) vwP [(cA_2, .byte)] U ∧ va_D (fun _ => True) [(h0, .inr (11, [.ref q_1, .int 12, .int (-1), .ref q_3, .ref q_21, .ref q_39, .int 0, .ref q_52, .int 0, .ref q_60, .ref q_66, .ref q_73, .ref q_79, .ref q_84, .ref q_92, .ref q_102, .ref q_107])), (q_1, .inl (cA_2, 8192, .inl f_0))])) (va_Qv (fun _ : Unit => True) (fun (_ : Unit) (t : State) => ∃ (g0_9 : Nat → Int32), va_P (dC, dI) vwP [(h0, .inr (11, [.ref q_1, .int 16, .int (-1), .ref q_3, .ref q_21, .ref q_39, .int 0, .ref q_52, .int 0, .ref q_60, .ref q_66, .ref q_73, .ref q_79, .ref q_84, .ref q_92, .ref q_102, .ref q_107])), (q_1, .inl (cA_2, 8192, .inl g0_9))] t.heap ∧ va_K (dC, dI) vwP [(cA_2, .byte)] t ∧ va_D (va_A [(h0, .inr (11, [.ref q_1, .int 12, .int (-1), .ref q_3, .ref q_21, .ref q_39, .int 0, .ref q_52, .int 0, .ref q_60, .ref q_66, .ref q_73, .ref q_79, .ref q_84, .ref q_92, .ref q_102, .ref q_107])), (q_1, .inl (cA_2, 8192, .inl f_0))] sz) [(h0, .inr (11, [.ref q_1, .int 16, .int (-1), .ref q_3, .ref q_21, .ref q_39, .int 0, .ref q_52, .int 0, .ref q_60, .ref q_66, .ref q_73, .ref q_79, .ref q_84, .ref q_92, .ref q_102, .ref q_107])), (q_1, .inl (cA_2, 8192, .inl g0_9))]) (va_A [(h0, .inr (11, [.ref q_1, .int 12, .int (-1), .ref q_3, .ref q_21, .ref q_39, .int 0, .ref q_52, .int 0, .ref q_60, .ref q_66, .ref q_73, .ref q_79, .ref q_84, .ref q_92, .ref q_102, .ref q_107])), (q_1, .inl (cA_2, 8192, .inl f_0))] sz)) 0 0 (va_A [(h0, .inr (11, [.ref q_1, .int 12, .int (-1), .ref q_3, .ref q_21, .ref q_39, .int 0, .ref q_52, .int 0, .ref q_60, .ref q_66, .ref q_73, .ref q_79, .ref q_84, .ref q_92, .ref q_102, .ref q_107])), (q_1, .inl (cA_2, 8192, .inl f_0))] sz) := by
  refine Met.ofW (cc := cX11_putOnTape) (maxL := 2) (ret := none) (by decide) rfl ?_
  intro p e s m args below meth c s₁ B hml hv
  obtain ⟨rfl, hsz, hP, hK, hD0⟩ := hv
  have hx := B.exec
  have hb := B.bytes
  have hr := B.returns
  have hts := atoms_spec (ws := v_X11_put12) B.pre
  have hown : s.vm.findClass RX11 = some m.cls := findClass_of_methodNamed B.named
  have hlocks := B.notSynchronized
  have ow : ∀ {k : Nat} {w : Cond}, o_X11_put12[k]? = some w → w.before ([.ref h0, .int p0] : List Value).toArray s = true := fun h => hts _ (mow_X11_put12 _ (List.mem_of_getElem? h))
  subst hsz
  have hD := hD0.self (sz := s.heap.size)
  generalize hAe : va_A [(h0, .inr (11, [.ref q_1, .int 12, .int (-1), .ref q_3, .ref q_21, .ref q_39, .int 0, .ref q_52, .int 0, .ref q_60, .ref q_66, .ref q_73, .ref q_79, .ref q_84, .ref q_92, .ref q_102, .ref q_107])), (q_1, .inl (cA_2, 8192, .inl f_0))] s.heap.size = A at hD ⊢
  have hA : ∀ q : Nat, s.heap.size ≤ q → A q := fun q h => by rw [← hAe]; exact Or.inr h
  have hS : va_S A s.heap s.heap [] := va_S.rf
  have hP : va_P (dC, dI) vwP [(h0, .inr (11, [.ref q_1, .int 12, .int (-1), .ref q_3, .ref q_21, .ref q_39, .int 0, .ref q_52, .int 0, .ref q_60, .ref q_66, .ref q_73, .ref q_79, .ref q_84, .ref q_92, .ref q_102, .ref q_107])), (q_1, .inl (cA_2, 8192, .inl f_0))] s.heap := hP
  have hl := lv_entry ([.ref h0, .int p0]) (n := 2) (Nat.le_of_ble_eq_true rfl)
  rw [lg_entry_eq]
  generalize (lg_sl ([.ref h0, .int p0]) ++ List.replicate (2 - (lg_sl ([.ref h0, .int p0])).length) Slot.unset).toArray = ls at hl ⊢
  have hl : lv_has ls 2 [(0, .ref h0), (1, .int p0)] := hl
  obtain ⟨H, hH⟩ : ∃ H, H = s.heap := ⟨_, rfl⟩
  rw [← hH] at hP
  have hS : va_S A s.heap H [] := by rw [hH]; exact hS
  rw [← hH]
  refine lv_aload_n hx hb dX11_putOnTape_0 rfl (lv_at hl 0 rfl) ?_
  refine va_get (D := (dC, dI)) (ci := 11) (v := .ref q_1) (C := RX11) (T := TX11) (N := 17) hx hb hts mem_X11_put12_0 hown hK hP 0 rfl rfl 0 (by decide) (ow (k := 0) rfl) (fun _ h9 => h9) rfl dX11_putOnTape_1 ?_
  refine lv_aload_n hx hb dX11_putOnTape_4 rfl (lv_at hl 0 rfl) ?_
  refine va_get (D := (dC, dI)) (ci := 11) (v := .int 12) (C := RX11) (T := TX11) (N := 17) hx hb hts mem_X11_put12_0 hown hK hP 0 rfl rfl 1 (by decide) (ow (k := 1) rfl) (fun _ h9 => h9) rfl dX11_putOnTape_5 ?_
  refine lv_iload_n hx hb dX11_putOnTape_8 rfl (lv_at hl 1 rfl) ?_
  refine lv_bipush (v := 24) hx hb dX11_putOnTape_9 (by decide) ?_
  refine lv_ishr hx hb dX11_putOnTape_11 ?_
  refine lv_i2b hx hb dX11_putOnTape_12 rfl ?_
  refine va_bast hx hb hK hP hD hS 1 0 rfl rfl (show vp_in 12 8192 by rw [vp_in_iff]; decide) dX11_putOnTape_13 (fun H locs hP hD hS => ?_)
  have hP : va_P (dC, dI) vwP [(h0, .inr (11, [.ref q_1, .int 12, .int (-1), .ref q_3, .ref q_21, .ref q_39, .int 0, .ref q_52, .int 0, .ref q_60, .ref q_66, .ref q_73, .ref q_79, .ref q_84, .ref q_92, .ref q_102, .ref q_107])), (q_1, .inl (cA_2, 8192, .inl (upd f_0 (12 : Int32).toNatClampNeg (vp_nar .byte ((p0 >>> (24 &&& 31)).toInt8.toInt32)))))] H := hP
  have hD : va_D A [(h0, .inr (11, [.ref q_1, .int 12, .int (-1), .ref q_3, .ref q_21, .ref q_39, .int 0, .ref q_52, .int 0, .ref q_60, .ref q_66, .ref q_73, .ref q_79, .ref q_84, .ref q_92, .ref q_102, .ref q_107])), (q_1, .inl (cA_2, 8192, .inl (upd f_0 (12 : Int32).toNatClampNeg (vp_nar .byte ((p0 >>> (24 &&& 31)).toInt8.toInt32)))))] := hD
  generalize (upd f_0 (12 : Int32).toNatClampNeg (vp_nar .byte ((p0 >>> (24 &&& 31)).toInt8.toInt32))) = f_1 at hP hD
  refine lv_aload_n hx hb dX11_putOnTape_14 rfl (lv_at hl 0 rfl) ?_
  refine va_get (D := (dC, dI)) (ci := 11) (v := .ref q_1) (C := RX11) (T := TX11) (N := 17) hx hb hts mem_X11_put12_0 hown hK hP 0 rfl rfl 0 (by decide) (ow (k := 0) rfl) (fun _ h9 => h9) rfl dX11_putOnTape_15 ?_
  refine lv_aload_n hx hb dX11_putOnTape_18 rfl (lv_at hl 0 rfl) ?_
  refine va_get (D := (dC, dI)) (ci := 11) (v := .int 12) (C := RX11) (T := TX11) (N := 17) hx hb hts mem_X11_put12_0 hown hK hP 0 rfl rfl 1 (by decide) (ow (k := 1) rfl) (fun _ h9 => h9) rfl dX11_putOnTape_19 ?_
  refine lv_iconst (v := 1) hx hb dX11_putOnTape_22 (by decide) ?_
  refine lv_iadd hx hb dX11_putOnTape_23 ?_
  refine lv_topi (fun z ez => ?_)
  obtain rfl : z = 13 := by rw [ez]; decide
  refine lv_iload_n hx hb dX11_putOnTape_24 rfl (lv_at hl 1 rfl) ?_
  refine lv_bipush (v := 16) hx hb dX11_putOnTape_25 (by decide) ?_
  refine lv_ishr hx hb dX11_putOnTape_27 ?_
  refine lv_i2b hx hb dX11_putOnTape_28 rfl ?_
  refine va_bast hx hb hK hP hD hS 1 0 rfl rfl (show vp_in 13 8192 by rw [vp_in_iff]; decide) dX11_putOnTape_29 (fun H locs hP hD hS => ?_)
  have hP : va_P (dC, dI) vwP [(h0, .inr (11, [.ref q_1, .int 12, .int (-1), .ref q_3, .ref q_21, .ref q_39, .int 0, .ref q_52, .int 0, .ref q_60, .ref q_66, .ref q_73, .ref q_79, .ref q_84, .ref q_92, .ref q_102, .ref q_107])), (q_1, .inl (cA_2, 8192, .inl (upd f_1 (13 : Int32).toNatClampNeg (vp_nar .byte ((p0 >>> (16 &&& 31)).toInt8.toInt32)))))] H := hP
  have hD : va_D A [(h0, .inr (11, [.ref q_1, .int 12, .int (-1), .ref q_3, .ref q_21, .ref q_39, .int 0, .ref q_52, .int 0, .ref q_60, .ref q_66, .ref q_73, .ref q_79, .ref q_84, .ref q_92, .ref q_102, .ref q_107])), (q_1, .inl (cA_2, 8192, .inl (upd f_1 (13 : Int32).toNatClampNeg (vp_nar .byte ((p0 >>> (16 &&& 31)).toInt8.toInt32)))))] := hD
  generalize (upd f_1 (13 : Int32).toNatClampNeg (vp_nar .byte ((p0 >>> (16 &&& 31)).toInt8.toInt32))) = f_2 at hP hD
  refine lv_aload_n hx hb dX11_putOnTape_30 rfl (lv_at hl 0 rfl) ?_
  refine va_get (D := (dC, dI)) (ci := 11) (v := .ref q_1) (C := RX11) (T := TX11) (N := 17) hx hb hts mem_X11_put12_0 hown hK hP 0 rfl rfl 0 (by decide) (ow (k := 0) rfl) (fun _ h9 => h9) rfl dX11_putOnTape_31 ?_
  refine lv_aload_n hx hb dX11_putOnTape_34 rfl (lv_at hl 0 rfl) ?_
  refine va_get (D := (dC, dI)) (ci := 11) (v := .int 12) (C := RX11) (T := TX11) (N := 17) hx hb hts mem_X11_put12_0 hown hK hP 0 rfl rfl 1 (by decide) (ow (k := 1) rfl) (fun _ h9 => h9) rfl dX11_putOnTape_35 ?_
  refine lv_iconst (v := 2) hx hb dX11_putOnTape_38 (by decide) ?_
  refine lv_iadd hx hb dX11_putOnTape_39 ?_
  refine lv_topi (fun z ez => ?_)
  obtain rfl : z = 14 := by rw [ez]; decide
  refine lv_iload_n hx hb dX11_putOnTape_40 rfl (lv_at hl 1 rfl) ?_
  refine lv_bipush (v := 8) hx hb dX11_putOnTape_41 (by decide) ?_
  refine lv_ishr hx hb dX11_putOnTape_43 ?_
  refine lv_i2b hx hb dX11_putOnTape_44 rfl ?_
  refine va_bast hx hb hK hP hD hS 1 0 rfl rfl (show vp_in 14 8192 by rw [vp_in_iff]; decide) dX11_putOnTape_45 (fun H locs hP hD hS => ?_)
  have hP : va_P (dC, dI) vwP [(h0, .inr (11, [.ref q_1, .int 12, .int (-1), .ref q_3, .ref q_21, .ref q_39, .int 0, .ref q_52, .int 0, .ref q_60, .ref q_66, .ref q_73, .ref q_79, .ref q_84, .ref q_92, .ref q_102, .ref q_107])), (q_1, .inl (cA_2, 8192, .inl (upd f_2 (14 : Int32).toNatClampNeg (vp_nar .byte ((p0 >>> (8 &&& 31)).toInt8.toInt32)))))] H := hP
  have hD : va_D A [(h0, .inr (11, [.ref q_1, .int 12, .int (-1), .ref q_3, .ref q_21, .ref q_39, .int 0, .ref q_52, .int 0, .ref q_60, .ref q_66, .ref q_73, .ref q_79, .ref q_84, .ref q_92, .ref q_102, .ref q_107])), (q_1, .inl (cA_2, 8192, .inl (upd f_2 (14 : Int32).toNatClampNeg (vp_nar .byte ((p0 >>> (8 &&& 31)).toInt8.toInt32)))))] := hD
  generalize (upd f_2 (14 : Int32).toNatClampNeg (vp_nar .byte ((p0 >>> (8 &&& 31)).toInt8.toInt32))) = f_3 at hP hD
  refine lv_aload_n hx hb dX11_putOnTape_46 rfl (lv_at hl 0 rfl) ?_
  refine va_get (D := (dC, dI)) (ci := 11) (v := .ref q_1) (C := RX11) (T := TX11) (N := 17) hx hb hts mem_X11_put12_0 hown hK hP 0 rfl rfl 0 (by decide) (ow (k := 0) rfl) (fun _ h9 => h9) rfl dX11_putOnTape_47 ?_
  refine lv_aload_n hx hb dX11_putOnTape_50 rfl (lv_at hl 0 rfl) ?_
  refine va_get (D := (dC, dI)) (ci := 11) (v := .int 12) (C := RX11) (T := TX11) (N := 17) hx hb hts mem_X11_put12_0 hown hK hP 0 rfl rfl 1 (by decide) (ow (k := 1) rfl) (fun _ h9 => h9) rfl dX11_putOnTape_51 ?_
  refine lv_iconst (v := 3) hx hb dX11_putOnTape_54 (by decide) ?_
  refine lv_iadd hx hb dX11_putOnTape_55 ?_
  refine lv_topi (fun z ez => ?_)
  obtain rfl : z = 15 := by rw [ez]; decide
  refine lv_iload_n hx hb dX11_putOnTape_56 rfl (lv_at hl 1 rfl) ?_
  refine lv_i2b hx hb dX11_putOnTape_57 rfl ?_
  refine va_bast hx hb hK hP hD hS 1 0 rfl rfl (show vp_in 15 8192 by rw [vp_in_iff]; decide) dX11_putOnTape_58 (fun H locs hP hD hS => ?_)
  have hP : va_P (dC, dI) vwP [(h0, .inr (11, [.ref q_1, .int 12, .int (-1), .ref q_3, .ref q_21, .ref q_39, .int 0, .ref q_52, .int 0, .ref q_60, .ref q_66, .ref q_73, .ref q_79, .ref q_84, .ref q_92, .ref q_102, .ref q_107])), (q_1, .inl (cA_2, 8192, .inl (upd f_3 (15 : Int32).toNatClampNeg (vp_nar .byte (p0.toInt8.toInt32)))))] H := hP
  have hD : va_D A [(h0, .inr (11, [.ref q_1, .int 12, .int (-1), .ref q_3, .ref q_21, .ref q_39, .int 0, .ref q_52, .int 0, .ref q_60, .ref q_66, .ref q_73, .ref q_79, .ref q_84, .ref q_92, .ref q_102, .ref q_107])), (q_1, .inl (cA_2, 8192, .inl (upd f_3 (15 : Int32).toNatClampNeg (vp_nar .byte (p0.toInt8.toInt32)))))] := hD
  generalize (upd f_3 (15 : Int32).toNatClampNeg (vp_nar .byte (p0.toInt8.toInt32))) = f_4 at hP hD
  refine lv_aload_n hx hb dX11_putOnTape_59 rfl (lv_at hl 0 rfl) ?_
  refine lv_dup hx hb dX11_putOnTape_60 rfl ?_
  refine va_get (D := (dC, dI)) (ci := 11) (v := .int 12) (C := RX11) (T := TX11) (N := 17) hx hb hts mem_X11_put12_0 hown hK hP 0 rfl rfl 1 (by decide) (ow (k := 1) rfl) (fun _ h9 => h9) rfl dX11_putOnTape_61 ?_
  refine lv_iconst (v := 4) hx hb dX11_putOnTape_64 (by decide) ?_
  refine lv_iadd hx hb dX11_putOnTape_65 ?_
  refine lv_topi (fun z ez => ?_)
  obtain rfl : z = 16 := by rw [ez]; decide
  refine va_put (D := (dC, dI)) (ci := 11) (v := .int 16) (ty := .int) (C := RX11) (T := TX11) (N := 17) hx hb hts mem_X11_put12_0 tyX11 tyX11_ok nmX11 hown hK hP hD hS 0 rfl rfl 1 (by decide) (ow (k := 1) rfl) (fun _ h9 => h9) rfl (by decide +kernel) rfl rfl (Nat.le_of_ble_eq_true rfl) dX11_putOnTape_66 (fun H locs hP hD hS => ?_)
  have hP : va_P (dC, dI) vwP [(h0, .inr (11, [.ref q_1, .int 16, .int (-1), .ref q_3, .ref q_21, .ref q_39, .int 0, .ref q_52, .int 0, .ref q_60, .ref q_66, .ref q_73, .ref q_79, .ref q_84, .ref q_92, .ref q_102, .ref q_107])), (q_1, .inl (cA_2, 8192, .inl f_4))] H := hP
  have hD : va_D A [(h0, .inr (11, [.ref q_1, .int 16, .int (-1), .ref q_3, .ref q_21, .ref q_39, .int 0, .ref q_52, .int 0, .ref q_60, .ref q_66, .ref q_73, .ref q_79, .ref q_84, .ref q_92, .ref q_102, .ref q_107])), (q_1, .inl (cA_2, 8192, .inl f_4))] := hD
  refine W.widen (k := 0) (n := 0) (Nat.le_of_ble_eq_true rfl) (Nat.le_of_ble_eq_true rfl) ?_
  exact W.vret hx hb hr (fun t ht hW => ⟨⟨(), rfl, trivial, f_4, by rw [ht]; exact hP, va_K.moved hW.alike hK, hD⟩, hS.F ht⟩) hS.2.2 dX11_putOnTape_69
def o_X11_put16 : List Cond := [.fieldLink RX11 9 "SsaForge" "tape" "[B", .fieldLink RX11 13 "SsaForge" "tapeLength" "I"]
def v_X11_put16 : List Cond := .code yX11_putOnTape cX11_putOnTape 2 none :: (o_X11_put16 ++ (wsX110 ++ []))
theorem mow_X11_put16 : ∀ w ∈ o_X11_put16, w ∈ v_X11_put16 := fun _ h => List.mem_cons_of_mem _ (List.mem_append_left _ h)
theorem mem_X11_put16_0 : ∀ w ∈ wsX110, w ∈ v_X11_put16 := fun _ h => List.mem_cons_of_mem _ (List.mem_append_right _ (List.mem_append_left _ h))
set_option maxRecDepth 20000 in
theorem gw_X11_put16 : v_X11_put16.all goodWord = true := by decide +kernel
set_option maxHeartbeats 4000000 in
set_option maxRecDepth 100000 in
theorem c_X11_put16 (l : Launch) (dC : Nat → ClassId) (dI : Nat → Nat → Nat) (h0 : Nat) (q_1 : Nat) (q_3 : Nat) (q_21 : Nat) (q_39 : Nat) (q_52 : Nat) (q_60 : Nat) (q_66 : Nat) (q_73 : Nat) (q_79 : Nat) (q_84 : Nat) (q_92 : Nat) (q_102 : Nat) (q_107 : Nat) (cA_2 : ClassId) (f_0 : Nat → Int32) (p0 : Int32) (sz : Nat) : Met l yX11_putOnTape v_X11_put16 ({ frames := 0, cells := 0, slots := 0, locals := 0 }) (va_Pc [.ref h0, .int p0] (fun U => U.heap.size = sz ∧ va_P (dC, dI) vwP [(h0, .inr (11, [.ref q_1, .int 16, .int (-1), .ref q_3, .ref q_21, .ref q_39, .int 0, .ref q_52, .int 0, .ref q_60, .ref q_66, .ref q_73, .ref q_79, .ref q_84, .ref q_92, .ref q_102, .ref q_107])), (q_1, .inl (cA_2, 8192, .inl f_0))] U.heap ∧ va_K (dC, dI) vwP [(cA_2, .byte)] U ∧ va_D (fun _ => True) [(h0, .inr (11, [.ref q_1, .int 16, .int (-1), .ref q_3, .ref q_21, .ref q_39, .int 0, .ref q_52, .int 0, .ref q_60, .ref q_66, .ref q_73, .ref q_79, .ref q_84, .ref q_92, .ref q_102, .ref q_107])), (q_1, .inl (cA_2, 8192, .inl f_0))])) (va_Qv (fun _ : Unit => True) (fun (_ : Unit) (t : State) => ∃ (g0_9 : Nat → Int32), va_P (dC, dI) vwP [(h0, .inr (11, [.ref q_1, .int 20, .int (-1), .ref q_3, .ref q_21, .ref q_39, .int 0, .ref q_52, .int 0, .ref q_60, .ref q_66, .ref q_73, .ref q_79, .ref q_84, .ref q_92, .ref q_102, .ref q_107])), (q_1, .inl (cA_2, 8192, .inl g0_9))] t.heap ∧ va_K (dC, dI) vwP [(cA_2, .byte)] t ∧ va_D (va_A [(h0, .inr (11, [.ref q_1, .int 16, .int (-1), .ref q_3, .ref q_21, .ref q_39, .int 0, .ref q_52, .int 0, .ref q_60, .ref q_66, .ref q_73, .ref q_79, .ref q_84, .ref q_92, .ref q_102, .ref q_107])), (q_1, .inl (cA_2, 8192, .inl f_0))] sz) [(h0, .inr (11, [.ref q_1, .int 20, .int (-1), .ref q_3, .ref q_21, .ref q_39, .int 0, .ref q_52, .int 0, .ref q_60, .ref q_66, .ref q_73, .ref q_79, .ref q_84, .ref q_92, .ref q_102, .ref q_107])), (q_1, .inl (cA_2, 8192, .inl g0_9))]) (va_A [(h0, .inr (11, [.ref q_1, .int 16, .int (-1), .ref q_3, .ref q_21, .ref q_39, .int 0, .ref q_52, .int 0, .ref q_60, .ref q_66, .ref q_73, .ref q_79, .ref q_84, .ref q_92, .ref q_102, .ref q_107])), (q_1, .inl (cA_2, 8192, .inl f_0))] sz)) 0 0 (va_A [(h0, .inr (11, [.ref q_1, .int 16, .int (-1), .ref q_3, .ref q_21, .ref q_39, .int 0, .ref q_52, .int 0, .ref q_60, .ref q_66, .ref q_73, .ref q_79, .ref q_84, .ref q_92, .ref q_102, .ref q_107])), (q_1, .inl (cA_2, 8192, .inl f_0))] sz) := by
  refine Met.ofW (cc := cX11_putOnTape) (maxL := 2) (ret := none) (by decide) rfl ?_
  intro p e s m args below meth c s₁ B hml hv
  obtain ⟨rfl, hsz, hP, hK, hD0⟩ := hv
  have hx := B.exec
  have hb := B.bytes
  have hr := B.returns
  have hts := atoms_spec (ws := v_X11_put16) B.pre
  have hown : s.vm.findClass RX11 = some m.cls := findClass_of_methodNamed B.named
  have hlocks := B.notSynchronized
  have ow : ∀ {k : Nat} {w : Cond}, o_X11_put16[k]? = some w → w.before ([.ref h0, .int p0] : List Value).toArray s = true := fun h => hts _ (mow_X11_put16 _ (List.mem_of_getElem? h))
  subst hsz
  have hD := hD0.self (sz := s.heap.size)
  generalize hAe : va_A [(h0, .inr (11, [.ref q_1, .int 16, .int (-1), .ref q_3, .ref q_21, .ref q_39, .int 0, .ref q_52, .int 0, .ref q_60, .ref q_66, .ref q_73, .ref q_79, .ref q_84, .ref q_92, .ref q_102, .ref q_107])), (q_1, .inl (cA_2, 8192, .inl f_0))] s.heap.size = A at hD ⊢
  have hA : ∀ q : Nat, s.heap.size ≤ q → A q := fun q h => by rw [← hAe]; exact Or.inr h
  have hS : va_S A s.heap s.heap [] := va_S.rf
  have hP : va_P (dC, dI) vwP [(h0, .inr (11, [.ref q_1, .int 16, .int (-1), .ref q_3, .ref q_21, .ref q_39, .int 0, .ref q_52, .int 0, .ref q_60, .ref q_66, .ref q_73, .ref q_79, .ref q_84, .ref q_92, .ref q_102, .ref q_107])), (q_1, .inl (cA_2, 8192, .inl f_0))] s.heap := hP
  have hl := lv_entry ([.ref h0, .int p0]) (n := 2) (Nat.le_of_ble_eq_true rfl)
  rw [lg_entry_eq]
  generalize (lg_sl ([.ref h0, .int p0]) ++ List.replicate (2 - (lg_sl ([.ref h0, .int p0])).length) Slot.unset).toArray = ls at hl ⊢
  have hl : lv_has ls 2 [(0, .ref h0), (1, .int p0)] := hl
  obtain ⟨H, hH⟩ : ∃ H, H = s.heap := ⟨_, rfl⟩
  rw [← hH] at hP
  have hS : va_S A s.heap H [] := by rw [hH]; exact hS
  rw [← hH]
  refine lv_aload_n hx hb dX11_putOnTape_0 rfl (lv_at hl 0 rfl) ?_
  refine va_get (D := (dC, dI)) (ci := 11) (v := .ref q_1) (C := RX11) (T := TX11) (N := 17) hx hb hts mem_X11_put16_0 hown hK hP 0 rfl rfl 0 (by decide) (ow (k := 0) rfl) (fun _ h9 => h9) rfl dX11_putOnTape_1 ?_
  refine lv_aload_n hx hb dX11_putOnTape_4 rfl (lv_at hl 0 rfl) ?_
  refine va_get (D := (dC, dI)) (ci := 11) (v := .int 16) (C := RX11) (T := TX11) (N := 17) hx hb hts mem_X11_put16_0 hown hK hP 0 rfl rfl 1 (by decide) (ow (k := 1) rfl) (fun _ h9 => h9) rfl dX11_putOnTape_5 ?_
  refine lv_iload_n hx hb dX11_putOnTape_8 rfl (lv_at hl 1 rfl) ?_
  refine lv_bipush (v := 24) hx hb dX11_putOnTape_9 (by decide) ?_
  refine lv_ishr hx hb dX11_putOnTape_11 ?_
  refine lv_i2b hx hb dX11_putOnTape_12 rfl ?_
  refine va_bast hx hb hK hP hD hS 1 0 rfl rfl (show vp_in 16 8192 by rw [vp_in_iff]; decide) dX11_putOnTape_13 (fun H locs hP hD hS => ?_)
  have hP : va_P (dC, dI) vwP [(h0, .inr (11, [.ref q_1, .int 16, .int (-1), .ref q_3, .ref q_21, .ref q_39, .int 0, .ref q_52, .int 0, .ref q_60, .ref q_66, .ref q_73, .ref q_79, .ref q_84, .ref q_92, .ref q_102, .ref q_107])), (q_1, .inl (cA_2, 8192, .inl (upd f_0 (16 : Int32).toNatClampNeg (vp_nar .byte ((p0 >>> (24 &&& 31)).toInt8.toInt32)))))] H := hP
  have hD : va_D A [(h0, .inr (11, [.ref q_1, .int 16, .int (-1), .ref q_3, .ref q_21, .ref q_39, .int 0, .ref q_52, .int 0, .ref q_60, .ref q_66, .ref q_73, .ref q_79, .ref q_84, .ref q_92, .ref q_102, .ref q_107])), (q_1, .inl (cA_2, 8192, .inl (upd f_0 (16 : Int32).toNatClampNeg (vp_nar .byte ((p0 >>> (24 &&& 31)).toInt8.toInt32)))))] := hD
  generalize (upd f_0 (16 : Int32).toNatClampNeg (vp_nar .byte ((p0 >>> (24 &&& 31)).toInt8.toInt32))) = f_1 at hP hD
  refine lv_aload_n hx hb dX11_putOnTape_14 rfl (lv_at hl 0 rfl) ?_
  refine va_get (D := (dC, dI)) (ci := 11) (v := .ref q_1) (C := RX11) (T := TX11) (N := 17) hx hb hts mem_X11_put16_0 hown hK hP 0 rfl rfl 0 (by decide) (ow (k := 0) rfl) (fun _ h9 => h9) rfl dX11_putOnTape_15 ?_
  refine lv_aload_n hx hb dX11_putOnTape_18 rfl (lv_at hl 0 rfl) ?_
  refine va_get (D := (dC, dI)) (ci := 11) (v := .int 16) (C := RX11) (T := TX11) (N := 17) hx hb hts mem_X11_put16_0 hown hK hP 0 rfl rfl 1 (by decide) (ow (k := 1) rfl) (fun _ h9 => h9) rfl dX11_putOnTape_19 ?_
  refine lv_iconst (v := 1) hx hb dX11_putOnTape_22 (by decide) ?_
  refine lv_iadd hx hb dX11_putOnTape_23 ?_
  refine lv_topi (fun z ez => ?_)
  obtain rfl : z = 17 := by rw [ez]; decide
  refine lv_iload_n hx hb dX11_putOnTape_24 rfl (lv_at hl 1 rfl) ?_
  refine lv_bipush (v := 16) hx hb dX11_putOnTape_25 (by decide) ?_
  refine lv_ishr hx hb dX11_putOnTape_27 ?_
  refine lv_i2b hx hb dX11_putOnTape_28 rfl ?_
  refine va_bast hx hb hK hP hD hS 1 0 rfl rfl (show vp_in 17 8192 by rw [vp_in_iff]; decide) dX11_putOnTape_29 (fun H locs hP hD hS => ?_)
  have hP : va_P (dC, dI) vwP [(h0, .inr (11, [.ref q_1, .int 16, .int (-1), .ref q_3, .ref q_21, .ref q_39, .int 0, .ref q_52, .int 0, .ref q_60, .ref q_66, .ref q_73, .ref q_79, .ref q_84, .ref q_92, .ref q_102, .ref q_107])), (q_1, .inl (cA_2, 8192, .inl (upd f_1 (17 : Int32).toNatClampNeg (vp_nar .byte ((p0 >>> (16 &&& 31)).toInt8.toInt32)))))] H := hP
  have hD : va_D A [(h0, .inr (11, [.ref q_1, .int 16, .int (-1), .ref q_3, .ref q_21, .ref q_39, .int 0, .ref q_52, .int 0, .ref q_60, .ref q_66, .ref q_73, .ref q_79, .ref q_84, .ref q_92, .ref q_102, .ref q_107])), (q_1, .inl (cA_2, 8192, .inl (upd f_1 (17 : Int32).toNatClampNeg (vp_nar .byte ((p0 >>> (16 &&& 31)).toInt8.toInt32)))))] := hD
  generalize (upd f_1 (17 : Int32).toNatClampNeg (vp_nar .byte ((p0 >>> (16 &&& 31)).toInt8.toInt32))) = f_2 at hP hD
  refine lv_aload_n hx hb dX11_putOnTape_30 rfl (lv_at hl 0 rfl) ?_
  refine va_get (D := (dC, dI)) (ci := 11) (v := .ref q_1) (C := RX11) (T := TX11) (N := 17) hx hb hts mem_X11_put16_0 hown hK hP 0 rfl rfl 0 (by decide) (ow (k := 0) rfl) (fun _ h9 => h9) rfl dX11_putOnTape_31 ?_
  refine lv_aload_n hx hb dX11_putOnTape_34 rfl (lv_at hl 0 rfl) ?_
  refine va_get (D := (dC, dI)) (ci := 11) (v := .int 16) (C := RX11) (T := TX11) (N := 17) hx hb hts mem_X11_put16_0 hown hK hP 0 rfl rfl 1 (by decide) (ow (k := 1) rfl) (fun _ h9 => h9) rfl dX11_putOnTape_35 ?_
  refine lv_iconst (v := 2) hx hb dX11_putOnTape_38 (by decide) ?_
  refine lv_iadd hx hb dX11_putOnTape_39 ?_
  refine lv_topi (fun z ez => ?_)
  obtain rfl : z = 18 := by rw [ez]; decide
  refine lv_iload_n hx hb dX11_putOnTape_40 rfl (lv_at hl 1 rfl) ?_
  refine lv_bipush (v := 8) hx hb dX11_putOnTape_41 (by decide) ?_
  refine lv_ishr hx hb dX11_putOnTape_43 ?_
  refine lv_i2b hx hb dX11_putOnTape_44 rfl ?_
  refine va_bast hx hb hK hP hD hS 1 0 rfl rfl (show vp_in 18 8192 by rw [vp_in_iff]; decide) dX11_putOnTape_45 (fun H locs hP hD hS => ?_)
  have hP : va_P (dC, dI) vwP [(h0, .inr (11, [.ref q_1, .int 16, .int (-1), .ref q_3, .ref q_21, .ref q_39, .int 0, .ref q_52, .int 0, .ref q_60, .ref q_66, .ref q_73, .ref q_79, .ref q_84, .ref q_92, .ref q_102, .ref q_107])), (q_1, .inl (cA_2, 8192, .inl (upd f_2 (18 : Int32).toNatClampNeg (vp_nar .byte ((p0 >>> (8 &&& 31)).toInt8.toInt32)))))] H := hP
  have hD : va_D A [(h0, .inr (11, [.ref q_1, .int 16, .int (-1), .ref q_3, .ref q_21, .ref q_39, .int 0, .ref q_52, .int 0, .ref q_60, .ref q_66, .ref q_73, .ref q_79, .ref q_84, .ref q_92, .ref q_102, .ref q_107])), (q_1, .inl (cA_2, 8192, .inl (upd f_2 (18 : Int32).toNatClampNeg (vp_nar .byte ((p0 >>> (8 &&& 31)).toInt8.toInt32)))))] := hD
  generalize (upd f_2 (18 : Int32).toNatClampNeg (vp_nar .byte ((p0 >>> (8 &&& 31)).toInt8.toInt32))) = f_3 at hP hD
  refine lv_aload_n hx hb dX11_putOnTape_46 rfl (lv_at hl 0 rfl) ?_
  refine va_get (D := (dC, dI)) (ci := 11) (v := .ref q_1) (C := RX11) (T := TX11) (N := 17) hx hb hts mem_X11_put16_0 hown hK hP 0 rfl rfl 0 (by decide) (ow (k := 0) rfl) (fun _ h9 => h9) rfl dX11_putOnTape_47 ?_
  refine lv_aload_n hx hb dX11_putOnTape_50 rfl (lv_at hl 0 rfl) ?_
  refine va_get (D := (dC, dI)) (ci := 11) (v := .int 16) (C := RX11) (T := TX11) (N := 17) hx hb hts mem_X11_put16_0 hown hK hP 0 rfl rfl 1 (by decide) (ow (k := 1) rfl) (fun _ h9 => h9) rfl dX11_putOnTape_51 ?_
  refine lv_iconst (v := 3) hx hb dX11_putOnTape_54 (by decide) ?_
  refine lv_iadd hx hb dX11_putOnTape_55 ?_
  refine lv_topi (fun z ez => ?_)
  obtain rfl : z = 19 := by rw [ez]; decide
  refine lv_iload_n hx hb dX11_putOnTape_56 rfl (lv_at hl 1 rfl) ?_
  refine lv_i2b hx hb dX11_putOnTape_57 rfl ?_
  refine va_bast hx hb hK hP hD hS 1 0 rfl rfl (show vp_in 19 8192 by rw [vp_in_iff]; decide) dX11_putOnTape_58 (fun H locs hP hD hS => ?_)
  have hP : va_P (dC, dI) vwP [(h0, .inr (11, [.ref q_1, .int 16, .int (-1), .ref q_3, .ref q_21, .ref q_39, .int 0, .ref q_52, .int 0, .ref q_60, .ref q_66, .ref q_73, .ref q_79, .ref q_84, .ref q_92, .ref q_102, .ref q_107])), (q_1, .inl (cA_2, 8192, .inl (upd f_3 (19 : Int32).toNatClampNeg (vp_nar .byte (p0.toInt8.toInt32)))))] H := hP
  have hD : va_D A [(h0, .inr (11, [.ref q_1, .int 16, .int (-1), .ref q_3, .ref q_21, .ref q_39, .int 0, .ref q_52, .int 0, .ref q_60, .ref q_66, .ref q_73, .ref q_79, .ref q_84, .ref q_92, .ref q_102, .ref q_107])), (q_1, .inl (cA_2, 8192, .inl (upd f_3 (19 : Int32).toNatClampNeg (vp_nar .byte (p0.toInt8.toInt32)))))] := hD
  generalize (upd f_3 (19 : Int32).toNatClampNeg (vp_nar .byte (p0.toInt8.toInt32))) = f_4 at hP hD
  refine lv_aload_n hx hb dX11_putOnTape_59 rfl (lv_at hl 0 rfl) ?_
  refine lv_dup hx hb dX11_putOnTape_60 rfl ?_
  refine va_get (D := (dC, dI)) (ci := 11) (v := .int 16) (C := RX11) (T := TX11) (N := 17) hx hb hts mem_X11_put16_0 hown hK hP 0 rfl rfl 1 (by decide) (ow (k := 1) rfl) (fun _ h9 => h9) rfl dX11_putOnTape_61 ?_
  refine lv_iconst (v := 4) hx hb dX11_putOnTape_64 (by decide) ?_
  refine lv_iadd hx hb dX11_putOnTape_65 ?_
  refine lv_topi (fun z ez => ?_)
  obtain rfl : z = 20 := by rw [ez]; decide
  refine va_put (D := (dC, dI)) (ci := 11) (v := .int 20) (ty := .int) (C := RX11) (T := TX11) (N := 17) hx hb hts mem_X11_put16_0 tyX11 tyX11_ok nmX11 hown hK hP hD hS 0 rfl rfl 1 (by decide) (ow (k := 1) rfl) (fun _ h9 => h9) rfl (by decide +kernel) rfl rfl (Nat.le_of_ble_eq_true rfl) dX11_putOnTape_66 (fun H locs hP hD hS => ?_)
  have hP : va_P (dC, dI) vwP [(h0, .inr (11, [.ref q_1, .int 20, .int (-1), .ref q_3, .ref q_21, .ref q_39, .int 0, .ref q_52, .int 0, .ref q_60, .ref q_66, .ref q_73, .ref q_79, .ref q_84, .ref q_92, .ref q_102, .ref q_107])), (q_1, .inl (cA_2, 8192, .inl f_4))] H := hP
  have hD : va_D A [(h0, .inr (11, [.ref q_1, .int 20, .int (-1), .ref q_3, .ref q_21, .ref q_39, .int 0, .ref q_52, .int 0, .ref q_60, .ref q_66, .ref q_73, .ref q_79, .ref q_84, .ref q_92, .ref q_102, .ref q_107])), (q_1, .inl (cA_2, 8192, .inl f_4))] := hD
  refine W.widen (k := 0) (n := 0) (Nat.le_of_ble_eq_true rfl) (Nat.le_of_ble_eq_true rfl) ?_
  exact W.vret hx hb hr (fun t ht hW => ⟨⟨(), rfl, trivial, f_4, by rw [ht]; exact hP, va_K.moved hW.alike hK, hD⟩, hS.F ht⟩) hS.2.2 dX11_putOnTape_69
theorem dX11_feed_0 : decode cX11_feed 0 = .ok (.aload_n 0, 1) := by decide +kernel
theorem dX11_feed_1 : decode cX11_feed 1 = .ok (.getfield 13, 3) := by decide +kernel
theorem dX11_feed_4 : decode cX11_feed 4 = .ok (.bipush 20, 2) := by decide +kernel
theorem dX11_feed_6 : decode cX11_feed 6 = .ok (.iadd, 1) := by decide +kernel
theorem dX11_feed_7 : decode cX11_feed 7 = .ok (.sipush 8192, 3) := by decide +kernel
theorem dX11_feed_10 : decode cX11_feed 10 = .ok (.if_icmp .le 13, 3) := by decide +kernel
theorem dX11_feed_23 : decode cX11_feed 23 = .ok (.aload_n 0, 1) := by decide +kernel
theorem dX11_feed_24 : decode cX11_feed 24 = .ok (.iload_n 1, 1) := by decide +kernel
theorem dX11_feed_25 : decode cX11_feed 25 = .ok (.invokevirtual 114, 3) := by decide +kernel
theorem dX11_feed_28 : decode cX11_feed 28 = .ok (.aload_n 0, 1) := by decide +kernel
theorem dX11_feed_29 : decode cX11_feed 29 = .ok (.iload_n 2, 1) := by decide +kernel
theorem dX11_feed_30 : decode cX11_feed 30 = .ok (.invokevirtual 114, 3) := by decide +kernel
theorem dX11_feed_33 : decode cX11_feed 33 = .ok (.aload_n 0, 1) := by decide +kernel
theorem dX11_feed_34 : decode cX11_feed 34 = .ok (.iload_n 3, 1) := by decide +kernel
theorem dX11_feed_35 : decode cX11_feed 35 = .ok (.invokevirtual 114, 3) := by decide +kernel
theorem dX11_feed_38 : decode cX11_feed 38 = .ok (.aload_n 0, 1) := by decide +kernel
theorem dX11_feed_39 : decode cX11_feed 39 = .ok (.iload 4, 2) := by decide +kernel
theorem dX11_feed_41 : decode cX11_feed 41 = .ok (.invokevirtual 114, 3) := by decide +kernel
theorem dX11_feed_44 : decode cX11_feed 44 = .ok (.aload_n 0, 1) := by decide +kernel
theorem dX11_feed_45 : decode cX11_feed 45 = .ok (.iload 5, 2) := by decide +kernel
theorem dX11_feed_47 : decode cX11_feed 47 = .ok (.invokevirtual 114, 3) := by decide +kernel
theorem dX11_feed_50 : decode cX11_feed 50 = .ok (.aload_n 0, 1) := by decide +kernel
theorem dX11_feed_51 : decode cX11_feed 51 = .ok (.getfield 13, 3) := by decide +kernel
theorem dX11_feed_54 : decode cX11_feed 54 = .ok (.ireturn, 1) := by decide +kernel
def o_X11_feed : List Cond := [.fieldLink RX11 13 "SsaForge" "tapeLength" "I", .methodLink RX11 114 yX11_putOnTape, .instanceMethod yX11_putOnTape, .selects RX11 yX11_putOnTape yX11_putOnTape, .initialized RX11]
def v_X11_feed : List Cond := .code yX11_feed cX11_feed 6 (some .int) :: (o_X11_feed ++ (wsX110 ++ (v_X11_put0 ++ (v_X11_put4 ++ (v_X11_put8 ++ (v_X11_put12 ++ (v_X11_put16 ++ [])))))))
theorem mow_X11_feed : ∀ w ∈ o_X11_feed, w ∈ v_X11_feed := fun _ h => List.mem_cons_of_mem _ (List.mem_append_left _ h)
theorem mem_X11_feed_0 : ∀ w ∈ wsX110, w ∈ v_X11_feed := fun _ h => List.mem_cons_of_mem _ (List.mem_append_right _ (List.mem_append_left _ h))
theorem mem_X11_feed_1 : ∀ w ∈ v_X11_put0, w ∈ v_X11_feed := fun _ h => List.mem_cons_of_mem _ (List.mem_append_right _ (List.mem_append_right _ (List.mem_append_left _ h)))
theorem mem_X11_feed_2 : ∀ w ∈ v_X11_put4, w ∈ v_X11_feed := fun _ h => List.mem_cons_of_mem _ (List.mem_append_right _ (List.mem_append_right _ (List.mem_append_right _ (List.mem_append_left _ h))))
theorem mem_X11_feed_3 : ∀ w ∈ v_X11_put8, w ∈ v_X11_feed := fun _ h => List.mem_cons_of_mem _ (List.mem_append_right _ (List.mem_append_right _ (List.mem_append_right _ (List.mem_append_right _ (List.mem_append_left _ h)))))
theorem mem_X11_feed_4 : ∀ w ∈ v_X11_put12, w ∈ v_X11_feed := fun _ h => List.mem_cons_of_mem _ (List.mem_append_right _ (List.mem_append_right _ (List.mem_append_right _ (List.mem_append_right _ (List.mem_append_right _ (List.mem_append_left _ h))))))
theorem mem_X11_feed_5 : ∀ w ∈ v_X11_put16, w ∈ v_X11_feed := fun _ h => List.mem_cons_of_mem _ (List.mem_append_right _ (List.mem_append_right _ (List.mem_append_right _ (List.mem_append_right _ (List.mem_append_right _ (List.mem_append_right _ (List.mem_append_left _ h)))))))
set_option maxRecDepth 20000 in
theorem gw_X11_feed : v_X11_feed.all goodWord = true := by decide +kernel
set_option maxRecDepth 20000 in
theorem g_X11_feed_X11_put0 : GoodIn v_X11_feed (wsV RX11 114 RX11 yX11_putOnTape v_X11_put0) := goodIn_app (goodIn_sub (fun w h => mow_X11_feed w (by revert w h; decide +kernel)) (by decide +kernel)) (goodIn_sub mem_X11_feed_1 gw_X11_put0)
set_option maxRecDepth 20000 in
theorem g_X11_feed_X11_put4 : GoodIn v_X11_feed (wsV RX11 114 RX11 yX11_putOnTape v_X11_put4) := goodIn_app (goodIn_sub (fun w h => mow_X11_feed w (by revert w h; decide +kernel)) (by decide +kernel)) (goodIn_sub mem_X11_feed_2 gw_X11_put4)
set_option maxRecDepth 20000 in
theorem g_X11_feed_X11_put8 : GoodIn v_X11_feed (wsV RX11 114 RX11 yX11_putOnTape v_X11_put8) := goodIn_app (goodIn_sub (fun w h => mow_X11_feed w (by revert w h; decide +kernel)) (by decide +kernel)) (goodIn_sub mem_X11_feed_3 gw_X11_put8)
set_option maxRecDepth 20000 in
theorem g_X11_feed_X11_put12 : GoodIn v_X11_feed (wsV RX11 114 RX11 yX11_putOnTape v_X11_put12) := goodIn_app (goodIn_sub (fun w h => mow_X11_feed w (by revert w h; decide +kernel)) (by decide +kernel)) (goodIn_sub mem_X11_feed_4 gw_X11_put12)
set_option maxRecDepth 20000 in
theorem g_X11_feed_X11_put16 : GoodIn v_X11_feed (wsV RX11 114 RX11 yX11_putOnTape v_X11_put16) := goodIn_app (goodIn_sub (fun w h => mow_X11_feed w (by revert w h; decide +kernel)) (by decide +kernel)) (goodIn_sub mem_X11_feed_5 gw_X11_put16)
set_option maxHeartbeats 4000000 in
set_option maxRecDepth 100000 in
theorem c_X11_feed (l : Launch) (dC : Nat → ClassId) (dI : Nat → Nat → Nat) (h0 : Nat) (q_1 : Nat) (q_3 : Nat) (q_21 : Nat) (q_39 : Nat) (q_52 : Nat) (q_60 : Nat) (q_66 : Nat) (q_73 : Nat) (q_79 : Nat) (q_84 : Nat) (q_92 : Nat) (q_102 : Nat) (q_107 : Nat) (cA_2 : ClassId) (p0 : Int32) (p1 : Int32) (p2 : Int32) (p3 : Int32) (p4 : Int32) (sz : Nat) : Met l yX11_feed v_X11_feed ({ frames := 1, cells := 0, slots := 0, locals := 21 }) (va_Pc [.ref h0, .int p0, .int p1, .int p2, .int p3, .int p4] (fun U => U.heap.size = sz ∧ va_P (dC, dI) vwP [(h0, .inr (11, [.ref q_1, .int 0, .int (-1), .ref q_3, .ref q_21, .ref q_39, .int 0, .ref q_52, .int 0, .ref q_60, .ref q_66, .ref q_73, .ref q_79, .ref q_84, .ref q_92, .ref q_102, .ref q_107])), (q_1, .inl (cA_2, 8192, .inl (fun _ => 0)))] U.heap ∧ va_K (dC, dI) vwP [(cA_2, .byte)] U ∧ va_D (fun _ => True) [(h0, .inr (11, [.ref q_1, .int 0, .int (-1), .ref q_3, .ref q_21, .ref q_39, .int 0, .ref q_52, .int 0, .ref q_60, .ref q_66, .ref q_73, .ref q_79, .ref q_84, .ref q_92, .ref q_102, .ref q_107])), (q_1, .inl (cA_2, 8192, .inl (fun _ => 0)))])) (va_Qi (fun (r : Int32) (_ : Unit) => r = 20) (fun (_ : Unit) (t : State) => va_P (dC, dI) vwP [] t.heap ∧ va_K (dC, dI) vwP [] t ∧ va_D (va_A [(h0, .inr (11, [.ref q_1, .int 0, .int (-1), .ref q_3, .ref q_21, .ref q_39, .int 0, .ref q_52, .int 0, .ref q_60, .ref q_66, .ref q_73, .ref q_79, .ref q_84, .ref q_92, .ref q_102, .ref q_107])), (q_1, .inl (cA_2, 8192, .inl (fun _ => 0)))] sz) []) (va_A [(h0, .inr (11, [.ref q_1, .int 0, .int (-1), .ref q_3, .ref q_21, .ref q_39, .int 0, .ref q_52, .int 0, .ref q_60, .ref q_66, .ref q_73, .ref q_79, .ref q_84, .ref q_92, .ref q_102, .ref q_107])), (q_1, .inl (cA_2, 8192, .inl (fun _ => 0)))] sz)) 0 0 (va_A [(h0, .inr (11, [.ref q_1, .int 0, .int (-1), .ref q_3, .ref q_21, .ref q_39, .int 0, .ref q_52, .int 0, .ref q_60, .ref q_66, .ref q_73, .ref q_79, .ref q_84, .ref q_92, .ref q_102, .ref q_107])), (q_1, .inl (cA_2, 8192, .inl (fun _ => 0)))] sz) := by
  refine Met.ofW (cc := cX11_feed) (maxL := 6) (ret := (some .int)) (by decide) rfl ?_
  intro p e s m args below meth c s₁ B hml hv
  obtain ⟨rfl, hsz, hP, hK, hD0⟩ := hv
  have hx := B.exec
  have hb := B.bytes
  have hr := B.returns
  have hts := atoms_spec (ws := v_X11_feed) B.pre
  have hown : s.vm.findClass RX11 = some m.cls := findClass_of_methodNamed B.named
  have hlocks := B.notSynchronized
  have ow : ∀ {k : Nat} {w : Cond}, o_X11_feed[k]? = some w → w.before ([.ref h0, .int p0, .int p1, .int p2, .int p3, .int p4] : List Value).toArray s = true := fun h => hts _ (mow_X11_feed _ (List.mem_of_getElem? h))
  subst hsz
  have hD := hD0.self (sz := s.heap.size)
  generalize hAe : va_A [(h0, .inr (11, [.ref q_1, .int 0, .int (-1), .ref q_3, .ref q_21, .ref q_39, .int 0, .ref q_52, .int 0, .ref q_60, .ref q_66, .ref q_73, .ref q_79, .ref q_84, .ref q_92, .ref q_102, .ref q_107])), (q_1, .inl (cA_2, 8192, .inl (fun _ => 0)))] s.heap.size = A at hD ⊢
  have hA : ∀ q : Nat, s.heap.size ≤ q → A q := fun q h => by rw [← hAe]; exact Or.inr h
  have hS : va_S A s.heap s.heap [] := va_S.rf
  have hP : va_P (dC, dI) vwP [(h0, .inr (11, [.ref q_1, .int 0, .int (-1), .ref q_3, .ref q_21, .ref q_39, .int 0, .ref q_52, .int 0, .ref q_60, .ref q_66, .ref q_73, .ref q_79, .ref q_84, .ref q_92, .ref q_102, .ref q_107])), (q_1, .inl (cA_2, 8192, .inl (fun _ => 0)))] s.heap := hP
  have hl := lv_entry ([.ref h0, .int p0, .int p1, .int p2, .int p3, .int p4]) (n := 6) (Nat.le_of_ble_eq_true rfl)
  rw [lg_entry_eq]
  generalize (lg_sl ([.ref h0, .int p0, .int p1, .int p2, .int p3, .int p4]) ++ List.replicate (6 - (lg_sl ([.ref h0, .int p0, .int p1, .int p2, .int p3, .int p4])).length) Slot.unset).toArray = ls at hl ⊢
  have hl : lv_has ls 6 [(0, .ref h0), (1, .int p0), (2, .int p1), (3, .int p2), (4, .int p3), (5, .int p4)] := hl
  obtain ⟨H, hH⟩ : ∃ H, H = s.heap := ⟨_, rfl⟩
  rw [← hH] at hP
  have hS : va_S A s.heap H [] := by rw [hH]; exact hS
  rw [← hH]
  refine lv_aload_n hx hb dX11_feed_0 rfl (lv_at hl 0 rfl) ?_
  refine va_get (D := (dC, dI)) (ci := 11) (v := .int 0) (C := RX11) (T := TX11) (N := 17) hx hb hts mem_X11_feed_0 hown hK hP 0 rfl rfl 1 (by decide) (ow (k := 0) rfl) (fun _ h9 => h9) rfl dX11_feed_1 ?_
  refine lv_bipush (v := 20) hx hb dX11_feed_4 (by decide) ?_
  refine lv_iadd hx hb dX11_feed_6 ?_
  refine lv_topi (fun z ez => ?_)
  obtain rfl : z = 20 := by rw [ez]; decide
  refine lv_sipush (v := 8192) hx hb dX11_feed_7 (by decide) ?_
  refine lv_icmp_le (tgt := 23) hx hb dX11_feed_10 (by decide) (fun _ => ?_) (fun h9 => absurd h9 (by decide))
  refine lv_aload_n hx hb dX11_feed_23 rfl (lv_at hl 0 rfl) ?_
  refine lv_iload_n hx hb dX11_feed_24 rfl (lv_at hl 1 rfl) ?_
  have hPc := hP.sub (ws' := [(h0, .inr (11, [.ref q_1, .int 0, .int (-1), .ref q_3, .ref q_21, .ref q_39, .int 0, .ref q_52, .int 0, .ref q_60, .ref q_66, .ref q_73, .ref q_79, .ref q_84, .ref q_92, .ref q_102, .ref q_107])), (q_1, .inl (cA_2, 8192, .inl (fun _ => 0)))]) [0, 1] rfl
  have hDc := hD.sub (ws' := [(h0, .inr (11, [.ref q_1, .int 0, .int (-1), .ref q_3, .ref q_21, .ref q_39, .int 0, .ref q_52, .int 0, .ref q_60, .ref q_66, .ref q_73, .ref q_79, .ref q_84, .ref q_92, .ref q_102, .ref q_107])), (q_1, .inl (cA_2, 8192, .inl (fun _ => 0)))]) [0, 1] (by decide) rfl
  have hKc := hK.sub (tys' := [(cA_2, .byte)]) [0] rfl
  have hFc := va_free (wc := [(h0, .inr (11, [.ref q_1, .int 0, .int (-1), .ref q_3, .ref q_21, .ref q_39, .int 0, .ref q_52, .int 0, .ref q_60, .ref q_66, .ref q_73, .ref q_79, .ref q_84, .ref q_92, .ref q_102, .ref q_107])), (q_1, .inl (cA_2, 8192, .inl (fun _ => 0)))]) hD hS hA [0, 1] rfl
  refine va_callv (va_runV (As := [.int p0]) (rest := []) ⟨hx, hb, hml, hown, hts⟩ (c_X11_put0 l dC dI h0 q_1 q_3 q_21 q_39 q_52 q_60 q_66 q_73 q_79 q_84 q_92 q_102 q_107 cA_2 ((fun _ => 0)) p0 H.size) (cwV 1 hts g_X11_feed_X11_put0 rfl rfl rfl (by decide +kernel) ⟨(Nat.le_of_ble_eq_true rfl), (Nat.le_of_ble_eq_true rfl)⟩) ⟨fun a U g mk q => by obtain ⟨q0, q1, qP, qK, qD⟩ := q; exact ⟨q0, q1, qP, va_K.moved (u := U) (U := U.calling g mk a) (Vm.Alike.refl U.vm) qK, qD⟩, va_recv hKc hPc (ci := 11) (q0 := 0) rfl rfl, fun U hU hW => ⟨rfl, by rw [hU], by rw [hU]; exact hPc, va_K.moved hW.alike hKc, hDc.weaken (fun _ _ _ _ => trivial)⟩⟩ rfl rfl hl.1 rfl (lv_room (Nat.le_of_ble_eq_true rfl)) dX11_feed_25 ⟨(Nat.le_of_ble_eq_true rfl), (Nat.le_of_ble_eq_true rfl)⟩) hS (fun q _ h => hFc q h) hFc (fun  u t H1 locs ht hvm hw hB hz1 hk1 hS => ?_)
  obtain ⟨g0_1, hP1, hK1, hD1⟩ := hB
  rw [ht] at hP1
  have hK1 := va_K.moved hvm.symm hK1
  obtain ⟨hP, hD⟩ := va_join (wr := []) (w1 := [(h0, .inr (11, [.ref q_1, .int 4, .int (-1), .ref q_3, .ref q_21, .ref q_39, .int 0, .ref q_52, .int 0, .ref q_60, .ref q_66, .ref q_73, .ref q_79, .ref q_84, .ref q_92, .ref q_102, .ref q_107])), (q_1, .inl (cA_2, 8192, .inl g0_1))]) hP hD [0, 1] [] rfl rfl (by decide) (by decide) hk1 hFc hP1 hD1
  have hK := (hK.sub (tys' := []) [] rfl).app hK1
  generalize H1 = H at hP hS ⊢
  have hP : va_P (dC, dI) vwP [(h0, .inr (11, [.ref q_1, .int 4, .int (-1), .ref q_3, .ref q_21, .ref q_39, .int 0, .ref q_52, .int 0, .ref q_60, .ref q_66, .ref q_73, .ref q_79, .ref q_84, .ref q_92, .ref q_102, .ref q_107])), (q_1, .inl (cA_2, 8192, .inl g0_1))] H := hP
  have hD : va_D A [(h0, .inr (11, [.ref q_1, .int 4, .int (-1), .ref q_3, .ref q_21, .ref q_39, .int 0, .ref q_52, .int 0, .ref q_60, .ref q_66, .ref q_73, .ref q_79, .ref q_84, .ref q_92, .ref q_102, .ref q_107])), (q_1, .inl (cA_2, 8192, .inl g0_1))] := hD
  have hK : va_K (dC, dI) vwP [(cA_2, .byte)] s := hK
  refine W.widen (k := 0) (n := 0) (Nat.le_of_ble_eq_true rfl) (Nat.le_of_ble_eq_true rfl) ?_
  refine lv_aload_n hx hb dX11_feed_28 rfl (lv_at hl 0 rfl) ?_
  refine lv_iload_n hx hb dX11_feed_29 rfl (lv_at hl 2 rfl) ?_
  have hPc := hP.sub (ws' := [(h0, .inr (11, [.ref q_1, .int 4, .int (-1), .ref q_3, .ref q_21, .ref q_39, .int 0, .ref q_52, .int 0, .ref q_60, .ref q_66, .ref q_73, .ref q_79, .ref q_84, .ref q_92, .ref q_102, .ref q_107])), (q_1, .inl (cA_2, 8192, .inl g0_1))]) [0, 1] rfl
  have hDc := hD.sub (ws' := [(h0, .inr (11, [.ref q_1, .int 4, .int (-1), .ref q_3, .ref q_21, .ref q_39, .int 0, .ref q_52, .int 0, .ref q_60, .ref q_66, .ref q_73, .ref q_79, .ref q_84, .ref q_92, .ref q_102, .ref q_107])), (q_1, .inl (cA_2, 8192, .inl g0_1))]) [0, 1] (by decide) rfl
  have hKc := hK.sub (tys' := [(cA_2, .byte)]) [0] rfl
  have hFc := va_free (wc := [(h0, .inr (11, [.ref q_1, .int 4, .int (-1), .ref q_3, .ref q_21, .ref q_39, .int 0, .ref q_52, .int 0, .ref q_60, .ref q_66, .ref q_73, .ref q_79, .ref q_84, .ref q_92, .ref q_102, .ref q_107])), (q_1, .inl (cA_2, 8192, .inl g0_1))]) hD hS hA [0, 1] rfl
  refine va_callv (va_runV (As := [.int p1]) (rest := []) ⟨hx, hb, hml, hown, hts⟩ (c_X11_put4 l dC dI h0 q_1 q_3 q_21 q_39 q_52 q_60 q_66 q_73 q_79 q_84 q_92 q_102 q_107 cA_2 g0_1 p1 H.size) (cwV 1 hts g_X11_feed_X11_put4 rfl rfl rfl (by decide +kernel) ⟨(Nat.le_of_ble_eq_true rfl), (Nat.le_of_ble_eq_true rfl)⟩) ⟨fun a U g mk q => by obtain ⟨q0, q1, qP, qK, qD⟩ := q; exact ⟨q0, q1, qP, va_K.moved (u := U) (U := U.calling g mk a) (Vm.Alike.refl U.vm) qK, qD⟩, va_recv hKc hPc (ci := 11) (q0 := 0) rfl rfl, fun U hU hW => ⟨rfl, by rw [hU], by rw [hU]; exact hPc, va_K.moved hW.alike hKc, hDc.weaken (fun _ _ _ _ => trivial)⟩⟩ rfl rfl hl.1 rfl (lv_room (Nat.le_of_ble_eq_true rfl)) dX11_feed_30 ⟨(Nat.le_of_ble_eq_true rfl), (Nat.le_of_ble_eq_true rfl)⟩) hS (fun q _ h => hFc q h) hFc (fun  u t H1 locs ht hvm hw hB hz1 hk1 hS => ?_)
  obtain ⟨g0_2, hP1, hK1, hD1⟩ := hB
  rw [ht] at hP1
  have hK1 := va_K.moved hvm.symm hK1
  obtain ⟨hP, hD⟩ := va_join (wr := []) (w1 := [(h0, .inr (11, [.ref q_1, .int 8, .int (-1), .ref q_3, .ref q_21, .ref q_39, .int 0, .ref q_52, .int 0, .ref q_60, .ref q_66, .ref q_73, .ref q_79, .ref q_84, .ref q_92, .ref q_102, .ref q_107])), (q_1, .inl (cA_2, 8192, .inl g0_2))]) hP hD [0, 1] [] rfl rfl (by decide) (by decide) hk1 hFc hP1 hD1
  have hK := (hK.sub (tys' := []) [] rfl).app hK1
  generalize H1 = H at hP hS ⊢
  have hP : va_P (dC, dI) vwP [(h0, .inr (11, [.ref q_1, .int 8, .int (-1), .ref q_3, .ref q_21, .ref q_39, .int 0, .ref q_52, .int 0, .ref q_60, .ref q_66, .ref q_73, .ref q_79, .ref q_84, .ref q_92, .ref q_102, .ref q_107])), (q_1, .inl (cA_2, 8192, .inl g0_2))] H := hP
  have hD : va_D A [(h0, .inr (11, [.ref q_1, .int 8, .int (-1), .ref q_3, .ref q_21, .ref q_39, .int 0, .ref q_52, .int 0, .ref q_60, .ref q_66, .ref q_73, .ref q_79, .ref q_84, .ref q_92, .ref q_102, .ref q_107])), (q_1, .inl (cA_2, 8192, .inl g0_2))] := hD
  have hK : va_K (dC, dI) vwP [(cA_2, .byte)] s := hK
  refine W.widen (k := 0) (n := 0) (Nat.le_of_ble_eq_true rfl) (Nat.le_of_ble_eq_true rfl) ?_
  refine lv_aload_n hx hb dX11_feed_33 rfl (lv_at hl 0 rfl) ?_
  refine lv_iload_n hx hb dX11_feed_34 rfl (lv_at hl 3 rfl) ?_
  have hPc := hP.sub (ws' := [(h0, .inr (11, [.ref q_1, .int 8, .int (-1), .ref q_3, .ref q_21, .ref q_39, .int 0, .ref q_52, .int 0, .ref q_60, .ref q_66, .ref q_73, .ref q_79, .ref q_84, .ref q_92, .ref q_102, .ref q_107])), (q_1, .inl (cA_2, 8192, .inl g0_2))]) [0, 1] rfl
  have hDc := hD.sub (ws' := [(h0, .inr (11, [.ref q_1, .int 8, .int (-1), .ref q_3, .ref q_21, .ref q_39, .int 0, .ref q_52, .int 0, .ref q_60, .ref q_66, .ref q_73, .ref q_79, .ref q_84, .ref q_92, .ref q_102, .ref q_107])), (q_1, .inl (cA_2, 8192, .inl g0_2))]) [0, 1] (by decide) rfl
  have hKc := hK.sub (tys' := [(cA_2, .byte)]) [0] rfl
  have hFc := va_free (wc := [(h0, .inr (11, [.ref q_1, .int 8, .int (-1), .ref q_3, .ref q_21, .ref q_39, .int 0, .ref q_52, .int 0, .ref q_60, .ref q_66, .ref q_73, .ref q_79, .ref q_84, .ref q_92, .ref q_102, .ref q_107])), (q_1, .inl (cA_2, 8192, .inl g0_2))]) hD hS hA [0, 1] rfl
  refine va_callv (va_runV (As := [.int p2]) (rest := []) ⟨hx, hb, hml, hown, hts⟩ (c_X11_put8 l dC dI h0 q_1 q_3 q_21 q_39 q_52 q_60 q_66 q_73 q_79 q_84 q_92 q_102 q_107 cA_2 g0_2 p2 H.size) (cwV 1 hts g_X11_feed_X11_put8 rfl rfl rfl (by decide +kernel) ⟨(Nat.le_of_ble_eq_true rfl), (Nat.le_of_ble_eq_true rfl)⟩) ⟨fun a U g mk q => by obtain ⟨q0, q1, qP, qK, qD⟩ := q; exact ⟨q0, q1, qP, va_K.moved (u := U) (U := U.calling g mk a) (Vm.Alike.refl U.vm) qK, qD⟩, va_recv hKc hPc (ci := 11) (q0 := 0) rfl rfl, fun U hU hW => ⟨rfl, by rw [hU], by rw [hU]; exact hPc, va_K.moved hW.alike hKc, hDc.weaken (fun _ _ _ _ => trivial)⟩⟩ rfl rfl hl.1 rfl (lv_room (Nat.le_of_ble_eq_true rfl)) dX11_feed_35 ⟨(Nat.le_of_ble_eq_true rfl), (Nat.le_of_ble_eq_true rfl)⟩) hS (fun q _ h => hFc q h) hFc (fun  u t H1 locs ht hvm hw hB hz1 hk1 hS => ?_)
  obtain ⟨g0_3, hP1, hK1, hD1⟩ := hB
  rw [ht] at hP1
  have hK1 := va_K.moved hvm.symm hK1
  obtain ⟨hP, hD⟩ := va_join (wr := []) (w1 := [(h0, .inr (11, [.ref q_1, .int 12, .int (-1), .ref q_3, .ref q_21, .ref q_39, .int 0, .ref q_52, .int 0, .ref q_60, .ref q_66, .ref q_73, .ref q_79, .ref q_84, .ref q_92, .ref q_102, .ref q_107])), (q_1, .inl (cA_2, 8192, .inl g0_3))]) hP hD [0, 1] [] rfl rfl (by decide) (by decide) hk1 hFc hP1 hD1
  have hK := (hK.sub (tys' := []) [] rfl).app hK1
  generalize H1 = H at hP hS ⊢
  have hP : va_P (dC, dI) vwP [(h0, .inr (11, [.ref q_1, .int 12, .int (-1), .ref q_3, .ref q_21, .ref q_39, .int 0, .ref q_52, .int 0, .ref q_60, .ref q_66, .ref q_73, .ref q_79, .ref q_84, .ref q_92, .ref q_102, .ref q_107])), (q_1, .inl (cA_2, 8192, .inl g0_3))] H := hP
  have hD : va_D A [(h0, .inr (11, [.ref q_1, .int 12, .int (-1), .ref q_3, .ref q_21, .ref q_39, .int 0, .ref q_52, .int 0, .ref q_60, .ref q_66, .ref q_73, .ref q_79, .ref q_84, .ref q_92, .ref q_102, .ref q_107])), (q_1, .inl (cA_2, 8192, .inl g0_3))] := hD
  have hK : va_K (dC, dI) vwP [(cA_2, .byte)] s := hK
  refine W.widen (k := 0) (n := 0) (Nat.le_of_ble_eq_true rfl) (Nat.le_of_ble_eq_true rfl) ?_
  refine lv_aload_n hx hb dX11_feed_38 rfl (lv_at hl 0 rfl) ?_
  refine lv_iload hx hb dX11_feed_39 (lv_at hl 4 rfl) ?_
  have hPc := hP.sub (ws' := [(h0, .inr (11, [.ref q_1, .int 12, .int (-1), .ref q_3, .ref q_21, .ref q_39, .int 0, .ref q_52, .int 0, .ref q_60, .ref q_66, .ref q_73, .ref q_79, .ref q_84, .ref q_92, .ref q_102, .ref q_107])), (q_1, .inl (cA_2, 8192, .inl g0_3))]) [0, 1] rfl
  have hDc := hD.sub (ws' := [(h0, .inr (11, [.ref q_1, .int 12, .int (-1), .ref q_3, .ref q_21, .ref q_39, .int 0, .ref q_52, .int 0, .ref q_60, .ref q_66, .ref q_73, .ref q_79, .ref q_84, .ref q_92, .ref q_102, .ref q_107])), (q_1, .inl (cA_2, 8192, .inl g0_3))]) [0, 1] (by decide) rfl
  have hKc := hK.sub (tys' := [(cA_2, .byte)]) [0] rfl
  have hFc := va_free (wc := [(h0, .inr (11, [.ref q_1, .int 12, .int (-1), .ref q_3, .ref q_21, .ref q_39, .int 0, .ref q_52, .int 0, .ref q_60, .ref q_66, .ref q_73, .ref q_79, .ref q_84, .ref q_92, .ref q_102, .ref q_107])), (q_1, .inl (cA_2, 8192, .inl g0_3))]) hD hS hA [0, 1] rfl
  refine va_callv (va_runV (As := [.int p3]) (rest := []) ⟨hx, hb, hml, hown, hts⟩ (c_X11_put12 l dC dI h0 q_1 q_3 q_21 q_39 q_52 q_60 q_66 q_73 q_79 q_84 q_92 q_102 q_107 cA_2 g0_3 p3 H.size) (cwV 1 hts g_X11_feed_X11_put12 rfl rfl rfl (by decide +kernel) ⟨(Nat.le_of_ble_eq_true rfl), (Nat.le_of_ble_eq_true rfl)⟩) ⟨fun a U g mk q => by obtain ⟨q0, q1, qP, qK, qD⟩ := q; exact ⟨q0, q1, qP, va_K.moved (u := U) (U := U.calling g mk a) (Vm.Alike.refl U.vm) qK, qD⟩, va_recv hKc hPc (ci := 11) (q0 := 0) rfl rfl, fun U hU hW => ⟨rfl, by rw [hU], by rw [hU]; exact hPc, va_K.moved hW.alike hKc, hDc.weaken (fun _ _ _ _ => trivial)⟩⟩ rfl rfl hl.1 rfl (lv_room (Nat.le_of_ble_eq_true rfl)) dX11_feed_41 ⟨(Nat.le_of_ble_eq_true rfl), (Nat.le_of_ble_eq_true rfl)⟩) hS (fun q _ h => hFc q h) hFc (fun  u t H1 locs ht hvm hw hB hz1 hk1 hS => ?_)
  obtain ⟨g0_4, hP1, hK1, hD1⟩ := hB
  rw [ht] at hP1
  have hK1 := va_K.moved hvm.symm hK1
  obtain ⟨hP, hD⟩ := va_join (wr := []) (w1 := [(h0, .inr (11, [.ref q_1, .int 16, .int (-1), .ref q_3, .ref q_21, .ref q_39, .int 0, .ref q_52, .int 0, .ref q_60, .ref q_66, .ref q_73, .ref q_79, .ref q_84, .ref q_92, .ref q_102, .ref q_107])), (q_1, .inl (cA_2, 8192, .inl g0_4))]) hP hD [0, 1] [] rfl rfl (by decide) (by decide) hk1 hFc hP1 hD1
  have hK := (hK.sub (tys' := []) [] rfl).app hK1
  generalize H1 = H at hP hS ⊢
  have hP : va_P (dC, dI) vwP [(h0, .inr (11, [.ref q_1, .int 16, .int (-1), .ref q_3, .ref q_21, .ref q_39, .int 0, .ref q_52, .int 0, .ref q_60, .ref q_66, .ref q_73, .ref q_79, .ref q_84, .ref q_92, .ref q_102, .ref q_107])), (q_1, .inl (cA_2, 8192, .inl g0_4))] H := hP
  have hD : va_D A [(h0, .inr (11, [.ref q_1, .int 16, .int (-1), .ref q_3, .ref q_21, .ref q_39, .int 0, .ref q_52, .int 0, .ref q_60, .ref q_66, .ref q_73, .ref q_79, .ref q_84, .ref q_92, .ref q_102, .ref q_107])), (q_1, .inl (cA_2, 8192, .inl g0_4))] := hD
  have hK : va_K (dC, dI) vwP [(cA_2, .byte)] s := hK
  refine W.widen (k := 0) (n := 0) (Nat.le_of_ble_eq_true rfl) (Nat.le_of_ble_eq_true rfl) ?_
  refine lv_aload_n hx hb dX11_feed_44 rfl (lv_at hl 0 rfl) ?_
  refine lv_iload hx hb dX11_feed_45 (lv_at hl 5 rfl) ?_
  have hPc := hP.sub (ws' := [(h0, .inr (11, [.ref q_1, .int 16, .int (-1), .ref q_3, .ref q_21, .ref q_39, .int 0, .ref q_52, .int 0, .ref q_60, .ref q_66, .ref q_73, .ref q_79, .ref q_84, .ref q_92, .ref q_102, .ref q_107])), (q_1, .inl (cA_2, 8192, .inl g0_4))]) [0, 1] rfl
  have hDc := hD.sub (ws' := [(h0, .inr (11, [.ref q_1, .int 16, .int (-1), .ref q_3, .ref q_21, .ref q_39, .int 0, .ref q_52, .int 0, .ref q_60, .ref q_66, .ref q_73, .ref q_79, .ref q_84, .ref q_92, .ref q_102, .ref q_107])), (q_1, .inl (cA_2, 8192, .inl g0_4))]) [0, 1] (by decide) rfl
  have hKc := hK.sub (tys' := [(cA_2, .byte)]) [0] rfl
  have hFc := va_free (wc := [(h0, .inr (11, [.ref q_1, .int 16, .int (-1), .ref q_3, .ref q_21, .ref q_39, .int 0, .ref q_52, .int 0, .ref q_60, .ref q_66, .ref q_73, .ref q_79, .ref q_84, .ref q_92, .ref q_102, .ref q_107])), (q_1, .inl (cA_2, 8192, .inl g0_4))]) hD hS hA [0, 1] rfl
  refine va_callv (va_runV (As := [.int p4]) (rest := []) ⟨hx, hb, hml, hown, hts⟩ (c_X11_put16 l dC dI h0 q_1 q_3 q_21 q_39 q_52 q_60 q_66 q_73 q_79 q_84 q_92 q_102 q_107 cA_2 g0_4 p4 H.size) (cwV 1 hts g_X11_feed_X11_put16 rfl rfl rfl (by decide +kernel) ⟨(Nat.le_of_ble_eq_true rfl), (Nat.le_of_ble_eq_true rfl)⟩) ⟨fun a U g mk q => by obtain ⟨q0, q1, qP, qK, qD⟩ := q; exact ⟨q0, q1, qP, va_K.moved (u := U) (U := U.calling g mk a) (Vm.Alike.refl U.vm) qK, qD⟩, va_recv hKc hPc (ci := 11) (q0 := 0) rfl rfl, fun U hU hW => ⟨rfl, by rw [hU], by rw [hU]; exact hPc, va_K.moved hW.alike hKc, hDc.weaken (fun _ _ _ _ => trivial)⟩⟩ rfl rfl hl.1 rfl (lv_room (Nat.le_of_ble_eq_true rfl)) dX11_feed_47 ⟨(Nat.le_of_ble_eq_true rfl), (Nat.le_of_ble_eq_true rfl)⟩) hS (fun q _ h => hFc q h) hFc (fun  u t H1 locs ht hvm hw hB hz1 hk1 hS => ?_)
  obtain ⟨g0_5, hP1, hK1, hD1⟩ := hB
  rw [ht] at hP1
  have hK1 := va_K.moved hvm.symm hK1
  obtain ⟨hP, hD⟩ := va_join (wr := []) (w1 := [(h0, .inr (11, [.ref q_1, .int 20, .int (-1), .ref q_3, .ref q_21, .ref q_39, .int 0, .ref q_52, .int 0, .ref q_60, .ref q_66, .ref q_73, .ref q_79, .ref q_84, .ref q_92, .ref q_102, .ref q_107])), (q_1, .inl (cA_2, 8192, .inl g0_5))]) hP hD [0, 1] [] rfl rfl (by decide) (by decide) hk1 hFc hP1 hD1
  have hK := (hK.sub (tys' := []) [] rfl).app hK1
  generalize H1 = H at hP hS ⊢
  have hP : va_P (dC, dI) vwP [(h0, .inr (11, [.ref q_1, .int 20, .int (-1), .ref q_3, .ref q_21, .ref q_39, .int 0, .ref q_52, .int 0, .ref q_60, .ref q_66, .ref q_73, .ref q_79, .ref q_84, .ref q_92, .ref q_102, .ref q_107])), (q_1, .inl (cA_2, 8192, .inl g0_5))] H := hP
  have hD : va_D A [(h0, .inr (11, [.ref q_1, .int 20, .int (-1), .ref q_3, .ref q_21, .ref q_39, .int 0, .ref q_52, .int 0, .ref q_60, .ref q_66, .ref q_73, .ref q_79, .ref q_84, .ref q_92, .ref q_102, .ref q_107])), (q_1, .inl (cA_2, 8192, .inl g0_5))] := hD
  have hK : va_K (dC, dI) vwP [(cA_2, .byte)] s := hK
  refine W.widen (k := 0) (n := 0) (Nat.le_of_ble_eq_true rfl) (Nat.le_of_ble_eq_true rfl) ?_
  refine lv_aload_n hx hb dX11_feed_50 rfl (lv_at hl 0 rfl) ?_
  refine va_get (D := (dC, dI)) (ci := 11) (v := .int 20) (C := RX11) (T := TX11) (N := 17) hx hb hts mem_X11_feed_0 hown hK hP 0 rfl rfl 1 (by decide) (ow (k := 0) rfl) (fun _ h9 => h9) rfl dX11_feed_51 ?_
  have hP := hP.sub (ws' := []) [] rfl
  have hD := hD.sub (ws' := []) [] (by decide) rfl
  have hK := hK.sub (tys' := []) [] rfl
  refine W.widen (k := 0) (n := 0) (Nat.le_of_ble_eq_true rfl) (Nat.le_of_ble_eq_true rfl) ?_
  exact W.iret (v := 20) hx hb hr (fun t ht hW => ⟨⟨20, (), rfl, rfl, by rw [ht]; exact hP, va_K.moved hW.alike hK, hD⟩, hS.F ht⟩) hS.2.2 dX11_feed_54
end
section
theorem dX0_clear_0 : decode cX0_clear 0 = .ok (.aload_n 0, 1) := by decide +kernel
theorem dX0_clear_1 : decode cX0_clear 1 = .ok (.iconst 0, 1) := by decide +kernel
theorem dX0_clear_2 : decode cX0_clear 2 = .ok (.putfield 9, 3) := by decide +kernel
theorem dX0_clear_5 : decode cX0_clear 5 = .ok (.aload_n 0, 1) := by decide +kernel
theorem dX0_clear_6 : decode cX0_clear 6 = .ok (.iconst 0, 1) := by decide +kernel
theorem dX0_clear_7 : decode cX0_clear 7 = .ok (.putfield 15, 3) := by decide +kernel
theorem dX0_clear_10 : decode cX0_clear 10 = .ok (.aload_n 0, 1) := by decide +kernel
theorem dX0_clear_11 : decode cX0_clear 11 = .ok (.iconst 0, 1) := by decide +kernel
theorem dX0_clear_12 : decode cX0_clear 12 = .ok (.putfield 18, 3) := by decide +kernel
theorem dX0_clear_15 : decode cX0_clear 15 = .ok (.aload_n 0, 1) := by decide +kernel
theorem dX0_clear_16 : decode cX0_clear 16 = .ok (.iconst 0, 1) := by decide +kernel
theorem dX0_clear_17 : decode cX0_clear 17 = .ok (.putfield 21, 3) := by decide +kernel
theorem dX0_clear_20 : decode cX0_clear 20 = .ok (.aload_n 0, 1) := by decide +kernel
theorem dX0_clear_21 : decode cX0_clear 21 = .ok (.getfield 24, 3) := by decide +kernel
theorem dX0_clear_24 : decode cX0_clear 24 = .ok (.iconst 0, 1) := by decide +kernel
theorem dX0_clear_25 : decode cX0_clear 25 = .ok (.iconst 0, 1) := by decide +kernel
theorem dX0_clear_26 : decode cX0_clear 26 = .ok (.iastore, 1) := by decide +kernel
theorem dX0_clear_27 : decode cX0_clear 27 = .ok (.aload_n 0, 1) := by decide +kernel
theorem dX0_clear_28 : decode cX0_clear 28 = .ok (.getfield 59, 3) := by decide +kernel
theorem dX0_clear_31 : decode cX0_clear 31 = .ok (.iconst 0, 1) := by decide +kernel
theorem dX0_clear_32 : decode cX0_clear 32 = .ok (.iconst 0, 1) := by decide +kernel
theorem dX0_clear_33 : decode cX0_clear 33 = .ok (.iastore, 1) := by decide +kernel
theorem dX0_clear_34 : decode cX0_clear 34 = .ok (.return_, 1) := by decide +kernel
def o_X0_clear : List Cond := [.fieldLink RX0 9 "SsaForge$Code" "blocks" "I", .fieldLink RX0 15 "SsaForge$Code" "rows" "I", .fieldLink RX0 18 "SsaForge$Code" "phis" "I", .fieldLink RX0 21 "SsaForge$Code" "argCount" "I", .fieldLink RX0 24 "SsaForge$Code" "rowStart" "[I", .fieldLink RX0 59 "SsaForge$Code" "phiStart" "[I"]
def v_X0_clear : List Cond := .code yX0_clear cX0_clear 1 none :: (o_X0_clear ++ (wsX00 ++ []))
theorem mow_X0_clear : ∀ w ∈ o_X0_clear, w ∈ v_X0_clear := fun _ h => List.mem_cons_of_mem _ (List.mem_append_left _ h)
theorem mem_X0_clear_0 : ∀ w ∈ wsX00, w ∈ v_X0_clear := fun _ h => List.mem_cons_of_mem _ (List.mem_append_right _ (List.mem_append_left _ h))
set_option maxRecDepth 20000 in
theorem gw_X0_clear : v_X0_clear.all goodWord = true := by decide +kernel
set_option maxHeartbeats 4000000 in
set_option maxRecDepth 100000 in
theorem c_X0_clear (l : Launch) (dC : Nat → ClassId) (dI : Nat → Nat → Nat) (q_3 : Nat) (q_4 : Nat) (q_5 : Nat) (q_6 : Nat) (q_7 : Nat) (q_8 : Nat) (q_9 : Nat) (q_10 : Nat) (q_11 : Nat) (q_12 : Nat) (q_13 : Nat) (q_14 : Nat) (q_15 : Nat) (q_16 : Nat) (q_17 : Nat) (q_18 : Nat) (cA_19 : ClassId) (cA_20 : ClassId) (sz : Nat) : Met l yX0_clear v_X0_clear ({ frames := 0, cells := 0, slots := 0, locals := 0 }) (va_Pc [.ref q_3] (fun U => U.heap.size = sz ∧ va_P (dC, dI) vwP [(q_3, .inr (0, [.int 0, .int 0, .int 0, .int 0, .ref q_4, .ref q_5, .ref q_6, .ref q_7, .ref q_8, .ref q_9, .ref q_10, .ref q_11, .ref q_12, .ref q_13, .ref q_14, .ref q_15, .ref q_16, .ref q_17, .ref q_18])), (q_4, .inl (cA_19, 301, .inl (fun _ => 0))), (q_15, .inl (cA_20, 301, .inl (fun _ => 0)))] U.heap ∧ va_K (dC, dI) vwP [(cA_19, .int), (cA_20, .int)] U ∧ va_D (fun _ => True) [(q_3, .inr (0, [.int 0, .int 0, .int 0, .int 0, .ref q_4, .ref q_5, .ref q_6, .ref q_7, .ref q_8, .ref q_9, .ref q_10, .ref q_11, .ref q_12, .ref q_13, .ref q_14, .ref q_15, .ref q_16, .ref q_17, .ref q_18])), (q_4, .inl (cA_19, 301, .inl (fun _ => 0))), (q_15, .inl (cA_20, 301, .inl (fun _ => 0)))])) (va_Qv (fun _ : Unit => True) (fun (_ : Unit) (t : State) => ∃ (g0_9 : Nat → Int32) (g1_9 : Nat → Int32), va_P (dC, dI) vwP [(q_3, .inr (0, [.int 0, .int 0, .int 0, .int 0, .ref q_4, .ref q_5, .ref q_6, .ref q_7, .ref q_8, .ref q_9, .ref q_10, .ref q_11, .ref q_12, .ref q_13, .ref q_14, .ref q_15, .ref q_16, .ref q_17, .ref q_18])), (q_4, .inl (cA_19, 301, .inl g0_9)), (q_15, .inl (cA_20, 301, .inl g1_9))] t.heap ∧ va_K (dC, dI) vwP [(cA_19, .int), (cA_20, .int)] t ∧ va_D (va_A [(q_3, .inr (0, [.int 0, .int 0, .int 0, .int 0, .ref q_4, .ref q_5, .ref q_6, .ref q_7, .ref q_8, .ref q_9, .ref q_10, .ref q_11, .ref q_12, .ref q_13, .ref q_14, .ref q_15, .ref q_16, .ref q_17, .ref q_18])), (q_4, .inl (cA_19, 301, .inl (fun _ => 0))), (q_15, .inl (cA_20, 301, .inl (fun _ => 0)))] sz) [(q_3, .inr (0, [.int 0, .int 0, .int 0, .int 0, .ref q_4, .ref q_5, .ref q_6, .ref q_7, .ref q_8, .ref q_9, .ref q_10, .ref q_11, .ref q_12, .ref q_13, .ref q_14, .ref q_15, .ref q_16, .ref q_17, .ref q_18])), (q_4, .inl (cA_19, 301, .inl g0_9)), (q_15, .inl (cA_20, 301, .inl g1_9))]) (va_A [(q_3, .inr (0, [.int 0, .int 0, .int 0, .int 0, .ref q_4, .ref q_5, .ref q_6, .ref q_7, .ref q_8, .ref q_9, .ref q_10, .ref q_11, .ref q_12, .ref q_13, .ref q_14, .ref q_15, .ref q_16, .ref q_17, .ref q_18])), (q_4, .inl (cA_19, 301, .inl (fun _ => 0))), (q_15, .inl (cA_20, 301, .inl (fun _ => 0)))] sz)) 0 0 (va_A [(q_3, .inr (0, [.int 0, .int 0, .int 0, .int 0, .ref q_4, .ref q_5, .ref q_6, .ref q_7, .ref q_8, .ref q_9, .ref q_10, .ref q_11, .ref q_12, .ref q_13, .ref q_14, .ref q_15, .ref q_16, .ref q_17, .ref q_18])), (q_4, .inl (cA_19, 301, .inl (fun _ => 0))), (q_15, .inl (cA_20, 301, .inl (fun _ => 0)))] sz) := by
  refine Met.ofW (cc := cX0_clear) (maxL := 1) (ret := none) (by decide) rfl ?_
  intro p e s m args below meth c s₁ B hml hv
  obtain ⟨rfl, hsz, hP, hK, hD0⟩ := hv
  have hx := B.exec
  have hb := B.bytes
  have hr := B.returns
  have hts := atoms_spec (ws := v_X0_clear) B.pre
  have hown : s.vm.findClass RX0 = some m.cls := findClass_of_methodNamed B.named
  have hlocks := B.notSynchronized
  have ow : ∀ {k : Nat} {w : Cond}, o_X0_clear[k]? = some w → w.before ([.ref q_3] : List Value).toArray s = true := fun h => hts _ (mow_X0_clear _ (List.mem_of_getElem? h))
  subst hsz
  have hD := hD0.self (sz := s.heap.size)
  generalize hAe : va_A [(q_3, .inr (0, [.int 0, .int 0, .int 0, .int 0, .ref q_4, .ref q_5, .ref q_6, .ref q_7, .ref q_8, .ref q_9, .ref q_10, .ref q_11, .ref q_12, .ref q_13, .ref q_14, .ref q_15, .ref q_16, .ref q_17, .ref q_18])), (q_4, .inl (cA_19, 301, .inl (fun _ => 0))), (q_15, .inl (cA_20, 301, .inl (fun _ => 0)))] s.heap.size = A at hD ⊢
  have hA : ∀ q : Nat, s.heap.size ≤ q → A q := fun q h => by rw [← hAe]; exact Or.inr h
  have hS : va_S A s.heap s.heap [] := va_S.rf
  have hP : va_P (dC, dI) vwP [(q_3, .inr (0, [.int 0, .int 0, .int 0, .int 0, .ref q_4, .ref q_5, .ref q_6, .ref q_7, .ref q_8, .ref q_9, .ref q_10, .ref q_11, .ref q_12, .ref q_13, .ref q_14, .ref q_15, .ref q_16, .ref q_17, .ref q_18])), (q_4, .inl (cA_19, 301, .inl (fun _ => 0))), (q_15, .inl (cA_20, 301, .inl (fun _ => 0)))] s.heap := hP
  have hl := lv_entry ([.ref q_3]) (n := 1) (Nat.le_of_ble_eq_true rfl)
  rw [lg_entry_eq]
  generalize (lg_sl ([.ref q_3]) ++ List.replicate (1 - (lg_sl ([.ref q_3])).length) Slot.unset).toArray = ls at hl ⊢
  have hl : lv_has ls 1 [(0, .ref q_3)] := hl
  obtain ⟨H, hH⟩ : ∃ H, H = s.heap := ⟨_, rfl⟩
  rw [← hH] at hP
  have hS : va_S A s.heap H [] := by rw [hH]; exact hS
  rw [← hH]
  refine lv_aload_n hx hb dX0_clear_0 rfl (lv_at hl 0 rfl) ?_
  refine lv_iconst (v := 0) hx hb dX0_clear_1 (by decide) ?_
  refine va_put (D := (dC, dI)) (ci := 0) (v := .int 0) (ty := .int) (C := RX0) (T := TX0) (N := 19) hx hb hts mem_X0_clear_0 tyX0 tyX0_ok nmX0 hown hK hP hD hS 0 rfl rfl 0 (by decide) (ow (k := 0) rfl) (fun _ h9 => h9) rfl (by decide +kernel) rfl rfl (Nat.le_of_ble_eq_true rfl) dX0_clear_2 (fun H locs hP hD hS => ?_)
  have hP : va_P (dC, dI) vwP [(q_3, .inr (0, [.int 0, .int 0, .int 0, .int 0, .ref q_4, .ref q_5, .ref q_6, .ref q_7, .ref q_8, .ref q_9, .ref q_10, .ref q_11, .ref q_12, .ref q_13, .ref q_14, .ref q_15, .ref q_16, .ref q_17, .ref q_18])), (q_4, .inl (cA_19, 301, .inl (fun _ => 0))), (q_15, .inl (cA_20, 301, .inl (fun _ => 0)))] H := hP
  have hD : va_D A [(q_3, .inr (0, [.int 0, .int 0, .int 0, .int 0, .ref q_4, .ref q_5, .ref q_6, .ref q_7, .ref q_8, .ref q_9, .ref q_10, .ref q_11, .ref q_12, .ref q_13, .ref q_14, .ref q_15, .ref q_16, .ref q_17, .ref q_18])), (q_4, .inl (cA_19, 301, .inl (fun _ => 0))), (q_15, .inl (cA_20, 301, .inl (fun _ => 0)))] := hD
  refine lv_aload_n hx hb dX0_clear_5 rfl (lv_at hl 0 rfl) ?_
  refine lv_iconst (v := 0) hx hb dX0_clear_6 (by decide) ?_
  refine va_put (D := (dC, dI)) (ci := 0) (v := .int 0) (ty := .int) (C := RX0) (T := TX0) (N := 19) hx hb hts mem_X0_clear_0 tyX0 tyX0_ok nmX0 hown hK hP hD hS 0 rfl rfl 1 (by decide) (ow (k := 1) rfl) (fun _ h9 => h9) rfl (by decide +kernel) rfl rfl (Nat.le_of_ble_eq_true rfl) dX0_clear_7 (fun H locs hP hD hS => ?_)
  have hP : va_P (dC, dI) vwP [(q_3, .inr (0, [.int 0, .int 0, .int 0, .int 0, .ref q_4, .ref q_5, .ref q_6, .ref q_7, .ref q_8, .ref q_9, .ref q_10, .ref q_11, .ref q_12, .ref q_13, .ref q_14, .ref q_15, .ref q_16, .ref q_17, .ref q_18])), (q_4, .inl (cA_19, 301, .inl (fun _ => 0))), (q_15, .inl (cA_20, 301, .inl (fun _ => 0)))] H := hP
  have hD : va_D A [(q_3, .inr (0, [.int 0, .int 0, .int 0, .int 0, .ref q_4, .ref q_5, .ref q_6, .ref q_7, .ref q_8, .ref q_9, .ref q_10, .ref q_11, .ref q_12, .ref q_13, .ref q_14, .ref q_15, .ref q_16, .ref q_17, .ref q_18])), (q_4, .inl (cA_19, 301, .inl (fun _ => 0))), (q_15, .inl (cA_20, 301, .inl (fun _ => 0)))] := hD
  refine lv_aload_n hx hb dX0_clear_10 rfl (lv_at hl 0 rfl) ?_
  refine lv_iconst (v := 0) hx hb dX0_clear_11 (by decide) ?_
  refine va_put (D := (dC, dI)) (ci := 0) (v := .int 0) (ty := .int) (C := RX0) (T := TX0) (N := 19) hx hb hts mem_X0_clear_0 tyX0 tyX0_ok nmX0 hown hK hP hD hS 0 rfl rfl 2 (by decide) (ow (k := 2) rfl) (fun _ h9 => h9) rfl (by decide +kernel) rfl rfl (Nat.le_of_ble_eq_true rfl) dX0_clear_12 (fun H locs hP hD hS => ?_)
  have hP : va_P (dC, dI) vwP [(q_3, .inr (0, [.int 0, .int 0, .int 0, .int 0, .ref q_4, .ref q_5, .ref q_6, .ref q_7, .ref q_8, .ref q_9, .ref q_10, .ref q_11, .ref q_12, .ref q_13, .ref q_14, .ref q_15, .ref q_16, .ref q_17, .ref q_18])), (q_4, .inl (cA_19, 301, .inl (fun _ => 0))), (q_15, .inl (cA_20, 301, .inl (fun _ => 0)))] H := hP
  have hD : va_D A [(q_3, .inr (0, [.int 0, .int 0, .int 0, .int 0, .ref q_4, .ref q_5, .ref q_6, .ref q_7, .ref q_8, .ref q_9, .ref q_10, .ref q_11, .ref q_12, .ref q_13, .ref q_14, .ref q_15, .ref q_16, .ref q_17, .ref q_18])), (q_4, .inl (cA_19, 301, .inl (fun _ => 0))), (q_15, .inl (cA_20, 301, .inl (fun _ => 0)))] := hD
  refine lv_aload_n hx hb dX0_clear_15 rfl (lv_at hl 0 rfl) ?_
  refine lv_iconst (v := 0) hx hb dX0_clear_16 (by decide) ?_
  refine va_put (D := (dC, dI)) (ci := 0) (v := .int 0) (ty := .int) (C := RX0) (T := TX0) (N := 19) hx hb hts mem_X0_clear_0 tyX0 tyX0_ok nmX0 hown hK hP hD hS 0 rfl rfl 3 (by decide) (ow (k := 3) rfl) (fun _ h9 => h9) rfl (by decide +kernel) rfl rfl (Nat.le_of_ble_eq_true rfl) dX0_clear_17 (fun H locs hP hD hS => ?_)
  have hP : va_P (dC, dI) vwP [(q_3, .inr (0, [.int 0, .int 0, .int 0, .int 0, .ref q_4, .ref q_5, .ref q_6, .ref q_7, .ref q_8, .ref q_9, .ref q_10, .ref q_11, .ref q_12, .ref q_13, .ref q_14, .ref q_15, .ref q_16, .ref q_17, .ref q_18])), (q_4, .inl (cA_19, 301, .inl (fun _ => 0))), (q_15, .inl (cA_20, 301, .inl (fun _ => 0)))] H := hP
  have hD : va_D A [(q_3, .inr (0, [.int 0, .int 0, .int 0, .int 0, .ref q_4, .ref q_5, .ref q_6, .ref q_7, .ref q_8, .ref q_9, .ref q_10, .ref q_11, .ref q_12, .ref q_13, .ref q_14, .ref q_15, .ref q_16, .ref q_17, .ref q_18])), (q_4, .inl (cA_19, 301, .inl (fun _ => 0))), (q_15, .inl (cA_20, 301, .inl (fun _ => 0)))] := hD
  refine lv_aload_n hx hb dX0_clear_20 rfl (lv_at hl 0 rfl) ?_
  refine va_get (D := (dC, dI)) (ci := 0) (v := .ref q_4) (C := RX0) (T := TX0) (N := 19) hx hb hts mem_X0_clear_0 hown hK hP 0 rfl rfl 4 (by decide) (ow (k := 4) rfl) (fun _ h9 => h9) rfl dX0_clear_21 ?_
  refine lv_iconst (v := 0) hx hb dX0_clear_24 (by decide) ?_
  refine lv_iconst (v := 0) hx hb dX0_clear_25 (by decide) ?_
  refine va_iast hx hb hK hP hD hS 1 0 rfl rfl (show vp_in 0 301 by rw [vp_in_iff]; decide) dX0_clear_26 (fun H locs hP hD hS => ?_)
  have hP : va_P (dC, dI) vwP [(q_3, .inr (0, [.int 0, .int 0, .int 0, .int 0, .ref q_4, .ref q_5, .ref q_6, .ref q_7, .ref q_8, .ref q_9, .ref q_10, .ref q_11, .ref q_12, .ref q_13, .ref q_14, .ref q_15, .ref q_16, .ref q_17, .ref q_18])), (q_4, .inl (cA_19, 301, .inl (upd (fun _ => 0) (0 : Int32).toNatClampNeg 0))), (q_15, .inl (cA_20, 301, .inl (fun _ => 0)))] H := hP
  have hD : va_D A [(q_3, .inr (0, [.int 0, .int 0, .int 0, .int 0, .ref q_4, .ref q_5, .ref q_6, .ref q_7, .ref q_8, .ref q_9, .ref q_10, .ref q_11, .ref q_12, .ref q_13, .ref q_14, .ref q_15, .ref q_16, .ref q_17, .ref q_18])), (q_4, .inl (cA_19, 301, .inl (upd (fun _ => 0) (0 : Int32).toNatClampNeg 0))), (q_15, .inl (cA_20, 301, .inl (fun _ => 0)))] := hD
  generalize (upd (fun _ => 0) (0 : Int32).toNatClampNeg 0) = f_1 at hP hD
  refine lv_aload_n hx hb dX0_clear_27 rfl (lv_at hl 0 rfl) ?_
  refine va_get (D := (dC, dI)) (ci := 0) (v := .ref q_15) (C := RX0) (T := TX0) (N := 19) hx hb hts mem_X0_clear_0 hown hK hP 0 rfl rfl 15 (by decide) (ow (k := 5) rfl) (fun _ h9 => h9) rfl dX0_clear_28 ?_
  refine lv_iconst (v := 0) hx hb dX0_clear_31 (by decide) ?_
  refine lv_iconst (v := 0) hx hb dX0_clear_32 (by decide) ?_
  refine va_iast hx hb hK hP hD hS 2 1 rfl rfl (show vp_in 0 301 by rw [vp_in_iff]; decide) dX0_clear_33 (fun H locs hP hD hS => ?_)
  have hP : va_P (dC, dI) vwP [(q_3, .inr (0, [.int 0, .int 0, .int 0, .int 0, .ref q_4, .ref q_5, .ref q_6, .ref q_7, .ref q_8, .ref q_9, .ref q_10, .ref q_11, .ref q_12, .ref q_13, .ref q_14, .ref q_15, .ref q_16, .ref q_17, .ref q_18])), (q_4, .inl (cA_19, 301, .inl f_1)), (q_15, .inl (cA_20, 301, .inl (upd (fun _ => 0) (0 : Int32).toNatClampNeg 0)))] H := hP
  have hD : va_D A [(q_3, .inr (0, [.int 0, .int 0, .int 0, .int 0, .ref q_4, .ref q_5, .ref q_6, .ref q_7, .ref q_8, .ref q_9, .ref q_10, .ref q_11, .ref q_12, .ref q_13, .ref q_14, .ref q_15, .ref q_16, .ref q_17, .ref q_18])), (q_4, .inl (cA_19, 301, .inl f_1)), (q_15, .inl (cA_20, 301, .inl (upd (fun _ => 0) (0 : Int32).toNatClampNeg 0)))] := hD
  generalize (upd (fun _ => 0) (0 : Int32).toNatClampNeg 0) = f_2 at hP hD
  refine W.widen (k := 0) (n := 0) (Nat.le_of_ble_eq_true rfl) (Nat.le_of_ble_eq_true rfl) ?_
  exact W.vret hx hb hr (fun t ht hW => ⟨⟨(), rfl, trivial, f_1, f_2, by rw [ht]; exact hP, va_K.moved hW.alike hK, hD⟩, hS.F ht⟩) hS.2.2 dX0_clear_34
theorem dX7_begin_0 : decode cX7_begin 0 = .ok (.aload_n 0, 1) := by decide +kernel
theorem dX7_begin_1 : decode cX7_begin 1 = .ok (.aload_n 1, 1) := by decide +kernel
theorem dX7_begin_2 : decode cX7_begin 2 = .ok (.putfield 15, 3) := by decide +kernel
theorem dX7_begin_5 : decode cX7_begin 5 = .ok (.aload_n 0, 1) := by decide +kernel
theorem dX7_begin_6 : decode cX7_begin 6 = .ok (.iload_n 2, 1) := by decide +kernel
theorem dX7_begin_7 : decode cX7_begin 7 = .ok (.putfield 19, 3) := by decide +kernel
theorem dX7_begin_10 : decode cX7_begin 10 = .ok (.aload_n 0, 1) := by decide +kernel
theorem dX7_begin_11 : decode cX7_begin 11 = .ok (.aload_n 3, 1) := by decide +kernel
theorem dX7_begin_12 : decode cX7_begin 12 = .ok (.putfield 37, 3) := by decide +kernel
theorem dX7_begin_15 : decode cX7_begin 15 = .ok (.aload_n 0, 1) := by decide +kernel
theorem dX7_begin_16 : decode cX7_begin 16 = .ok (.iconst 0, 1) := by decide +kernel
theorem dX7_begin_17 : decode cX7_begin 17 = .ok (.putfield 22, 3) := by decide +kernel
theorem dX7_begin_20 : decode cX7_begin 20 = .ok (.aload_n 0, 1) := by decide +kernel
theorem dX7_begin_21 : decode cX7_begin 21 = .ok (.iconst 1, 1) := by decide +kernel
theorem dX7_begin_22 : decode cX7_begin 22 = .ok (.putfield 25, 3) := by decide +kernel
theorem dX7_begin_25 : decode cX7_begin 25 = .ok (.aload_n 0, 1) := by decide +kernel
theorem dX7_begin_26 : decode cX7_begin 26 = .ok (.iconst 0, 1) := by decide +kernel
theorem dX7_begin_27 : decode cX7_begin 27 = .ok (.putfield 34, 3) := by decide +kernel
theorem dX7_begin_30 : decode cX7_begin 30 = .ok (.aload_n 0, 1) := by decide +kernel
theorem dX7_begin_31 : decode cX7_begin 31 = .ok (.iconst 0, 1) := by decide +kernel
theorem dX7_begin_32 : decode cX7_begin 32 = .ok (.putfield 41, 3) := by decide +kernel
theorem dX7_begin_35 : decode cX7_begin 35 = .ok (.aload_n 0, 1) := by decide +kernel
theorem dX7_begin_36 : decode cX7_begin 36 = .ok (.iconst 0, 1) := by decide +kernel
theorem dX7_begin_37 : decode cX7_begin 37 = .ok (.putfield 44, 3) := by decide +kernel
theorem dX7_begin_40 : decode cX7_begin 40 = .ok (.aload_n 0, 1) := by decide +kernel
theorem dX7_begin_41 : decode cX7_begin 41 = .ok (.iconst (-1), 1) := by decide +kernel
theorem dX7_begin_42 : decode cX7_begin 42 = .ok (.putfield 60, 3) := by decide +kernel
theorem dX7_begin_45 : decode cX7_begin 45 = .ok (.aload_n 0, 1) := by decide +kernel
theorem dX7_begin_46 : decode cX7_begin 46 = .ok (.iconst 0, 1) := by decide +kernel
theorem dX7_begin_47 : decode cX7_begin 47 = .ok (.putfield 9, 3) := by decide +kernel
theorem dX7_begin_50 : decode cX7_begin 50 = .ok (.aload_n 3, 1) := by decide +kernel
theorem dX7_begin_51 : decode cX7_begin 51 = .ok (.invokevirtual 90, 3) := by decide +kernel
theorem dX7_begin_54 : decode cX7_begin 54 = .ok (.iconst 0, 1) := by decide +kernel
theorem dX7_begin_55 : decode cX7_begin 55 = .ok (.istore 4, 2) := by decide +kernel
theorem dX7_begin_57 : decode cX7_begin 57 = .ok (.iload 4, 2) := by decide +kernel
theorem dX7_begin_59 : decode cX7_begin 59 = .ok (.bipush 60, 2) := by decide +kernel
theorem dX7_begin_61 : decode cX7_begin 61 = .ok (.if_icmp .ge 25, 3) := by decide +kernel
theorem dX7_begin_64 : decode cX7_begin 64 = .ok (.aload_n 0, 1) := by decide +kernel
theorem dX7_begin_65 : decode cX7_begin 65 = .ok (.getfield 63, 3) := by decide +kernel
theorem dX7_begin_68 : decode cX7_begin 68 = .ok (.iload 4, 2) := by decide +kernel
theorem dX7_begin_70 : decode cX7_begin 70 = .ok (.iconst 0, 1) := by decide +kernel
theorem dX7_begin_71 : decode cX7_begin 71 = .ok (.bastore, 1) := by decide +kernel
theorem dX7_begin_72 : decode cX7_begin 72 = .ok (.aload_n 0, 1) := by decide +kernel
theorem dX7_begin_73 : decode cX7_begin 73 = .ok (.getfield 67, 3) := by decide +kernel
theorem dX7_begin_76 : decode cX7_begin 76 = .ok (.iload 4, 2) := by decide +kernel
theorem dX7_begin_78 : decode cX7_begin 78 = .ok (.iconst (-1), 1) := by decide +kernel
theorem dX7_begin_79 : decode cX7_begin 79 = .ok (.iastore, 1) := by decide +kernel
theorem dX7_begin_80 : decode cX7_begin 80 = .ok (.iinc 4 1, 3) := by decide +kernel
theorem dX7_begin_83 : decode cX7_begin 83 = .ok (.goto (-26), 3) := by decide +kernel
theorem dX7_begin_86 : decode cX7_begin 86 = .ok (.return_, 1) := by decide +kernel
def o_X7_begin : List Cond := [.fieldLink RX7 15 "SsaForge$Reader" "bytes" "[B", .fieldLink RX7 19 "SsaForge$Reader" "length" "I", .fieldLink RX7 37 "SsaForge$Reader" "code" "LSsaForge$Code;", .fieldLink RX7 22 "SsaForge$Reader" "at" "I", .fieldLink RX7 25 "SsaForge$Reader" "kind" "I", .fieldLink RX7 34 "SsaForge$Reader" "state" "I", .fieldLink RX7 41 "SsaForge$Reader" "rowCount" "I", .fieldLink RX7 44 "SsaForge$Reader" "blockCount" "I", .fieldLink RX7 60 "SsaForge$Reader" "brokenPlace" "I", .fieldLink RX7 9 "SsaForge$Reader" "reason" "I", .methodLink RX7 90 yX0_clear, .instanceMethod yX0_clear, .selects RX0 yX0_clear yX0_clear, .initialized RX0, .fieldLink RX7 63 "SsaForge$Reader" "labelled" "[Z", .fieldLink RX7 67 "SsaForge$Reader" "goalPlace" "[I"]
def v_X7_begin : List Cond := .code yX7_begin cX7_begin 5 none :: (o_X7_begin ++ (wsX70 ++ (v_X0_clear ++ [])))
theorem mow_X7_begin : ∀ w ∈ o_X7_begin, w ∈ v_X7_begin := fun _ h => List.mem_cons_of_mem _ (List.mem_append_left _ h)
theorem mem_X7_begin_0 : ∀ w ∈ wsX70, w ∈ v_X7_begin := fun _ h => List.mem_cons_of_mem _ (List.mem_append_right _ (List.mem_append_left _ h))
theorem mem_X7_begin_1 : ∀ w ∈ v_X0_clear, w ∈ v_X7_begin := fun _ h => List.mem_cons_of_mem _ (List.mem_append_right _ (List.mem_append_right _ (List.mem_append_left _ h)))
set_option maxRecDepth 20000 in
theorem gw_X7_begin : v_X7_begin.all goodWord = true := by decide +kernel
set_option maxRecDepth 20000 in
theorem g_X7_begin_X0_clear : GoodIn v_X7_begin (wsV RX7 90 RX0 yX0_clear v_X0_clear) := goodIn_app (goodIn_sub (fun w h => mow_X7_begin w (by revert w h; decide +kernel)) (by decide +kernel)) (goodIn_sub mem_X7_begin_1 gw_X0_clear)
set_option maxHeartbeats 4000000 in
set_option maxRecDepth 100000 in
theorem c_X7_begin (l : Launch) (dC : Nat → ClassId) (dI : Nat → Nat → Nat) (q_60 : Nat) (q_61 : Nat) (q_62 : Nat) (q_63 : Nat) (cA_64 : ClassId) (cA_65 : ClassId) (q_3 : Nat) (q_4 : Nat) (q_5 : Nat) (q_6 : Nat) (q_7 : Nat) (q_8 : Nat) (q_9 : Nat) (q_10 : Nat) (q_11 : Nat) (q_12 : Nat) (q_13 : Nat) (q_14 : Nat) (q_15 : Nat) (q_16 : Nat) (q_17 : Nat) (q_18 : Nat) (cA_19 : ClassId) (cA_20 : ClassId) (q_1 : Nat) (sz : Nat) : Met l yX7_begin v_X7_begin ({ frames := 1, cells := 0, slots := 0, locals := 20 }) (va_Pc [.ref q_60, .ref q_1, .int 0, .ref q_3] (fun U => U.heap.size = sz ∧ va_P (dC, dI) vwP [(q_60, .inr (7, [.int 0, .ref q_61, .int 0, .int 0, .int 1, .int 0, .int 0, .int 0, .null, .int 0, .int 0, .int 0, .int 0, .long 0, .int 0, .int (-1), .ref q_62, .ref q_63])), (q_62, .inl (cA_64, 60, .inl (fun _ => 0))), (q_63, .inl (cA_65, 60, .inl (fun _ => 0))), (q_3, .inr (0, [.int 0, .int 0, .int 0, .int 0, .ref q_4, .ref q_5, .ref q_6, .ref q_7, .ref q_8, .ref q_9, .ref q_10, .ref q_11, .ref q_12, .ref q_13, .ref q_14, .ref q_15, .ref q_16, .ref q_17, .ref q_18])), (q_4, .inl (cA_19, 301, .inl (fun _ => 0))), (q_15, .inl (cA_20, 301, .inl (fun _ => 0)))] U.heap ∧ va_K (dC, dI) vwP [(cA_19, .int), (cA_20, .int), (cA_64, .boolean), (cA_65, .int)] U ∧ va_D (fun _ => True) [(q_60, .inr (7, [.int 0, .ref q_61, .int 0, .int 0, .int 1, .int 0, .int 0, .int 0, .null, .int 0, .int 0, .int 0, .int 0, .long 0, .int 0, .int (-1), .ref q_62, .ref q_63])), (q_62, .inl (cA_64, 60, .inl (fun _ => 0))), (q_63, .inl (cA_65, 60, .inl (fun _ => 0))), (q_3, .inr (0, [.int 0, .int 0, .int 0, .int 0, .ref q_4, .ref q_5, .ref q_6, .ref q_7, .ref q_8, .ref q_9, .ref q_10, .ref q_11, .ref q_12, .ref q_13, .ref q_14, .ref q_15, .ref q_16, .ref q_17, .ref q_18])), (q_4, .inl (cA_19, 301, .inl (fun _ => 0))), (q_15, .inl (cA_20, 301, .inl (fun _ => 0)))])) (va_Qv (fun _ : Unit => True) (fun (_ : Unit) (t : State) => va_P (dC, dI) vwP [(q_60, .inr (7, [.int 0, .ref q_1, .int 0, .int 0, .int 1, .int 0, .int 0, .int 0, .ref q_3, .int 0, .int 0, .int 0, .int 0, .long 0, .int 0, .int (-1), .ref q_62, .ref q_63]))] t.heap ∧ va_K (dC, dI) vwP [] t ∧ va_D (va_A [(q_60, .inr (7, [.int 0, .ref q_61, .int 0, .int 0, .int 1, .int 0, .int 0, .int 0, .null, .int 0, .int 0, .int 0, .int 0, .long 0, .int 0, .int (-1), .ref q_62, .ref q_63])), (q_62, .inl (cA_64, 60, .inl (fun _ => 0))), (q_63, .inl (cA_65, 60, .inl (fun _ => 0))), (q_3, .inr (0, [.int 0, .int 0, .int 0, .int 0, .ref q_4, .ref q_5, .ref q_6, .ref q_7, .ref q_8, .ref q_9, .ref q_10, .ref q_11, .ref q_12, .ref q_13, .ref q_14, .ref q_15, .ref q_16, .ref q_17, .ref q_18])), (q_4, .inl (cA_19, 301, .inl (fun _ => 0))), (q_15, .inl (cA_20, 301, .inl (fun _ => 0)))] sz) [(q_60, .inr (7, [.int 0, .ref q_1, .int 0, .int 0, .int 1, .int 0, .int 0, .int 0, .ref q_3, .int 0, .int 0, .int 0, .int 0, .long 0, .int 0, .int (-1), .ref q_62, .ref q_63]))]) (va_A [(q_60, .inr (7, [.int 0, .ref q_61, .int 0, .int 0, .int 1, .int 0, .int 0, .int 0, .null, .int 0, .int 0, .int 0, .int 0, .long 0, .int 0, .int (-1), .ref q_62, .ref q_63])), (q_62, .inl (cA_64, 60, .inl (fun _ => 0))), (q_63, .inl (cA_65, 60, .inl (fun _ => 0))), (q_3, .inr (0, [.int 0, .int 0, .int 0, .int 0, .ref q_4, .ref q_5, .ref q_6, .ref q_7, .ref q_8, .ref q_9, .ref q_10, .ref q_11, .ref q_12, .ref q_13, .ref q_14, .ref q_15, .ref q_16, .ref q_17, .ref q_18])), (q_4, .inl (cA_19, 301, .inl (fun _ => 0))), (q_15, .inl (cA_20, 301, .inl (fun _ => 0)))] sz)) 0 0 (va_A [(q_60, .inr (7, [.int 0, .ref q_61, .int 0, .int 0, .int 1, .int 0, .int 0, .int 0, .null, .int 0, .int 0, .int 0, .int 0, .long 0, .int 0, .int (-1), .ref q_62, .ref q_63])), (q_62, .inl (cA_64, 60, .inl (fun _ => 0))), (q_63, .inl (cA_65, 60, .inl (fun _ => 0))), (q_3, .inr (0, [.int 0, .int 0, .int 0, .int 0, .ref q_4, .ref q_5, .ref q_6, .ref q_7, .ref q_8, .ref q_9, .ref q_10, .ref q_11, .ref q_12, .ref q_13, .ref q_14, .ref q_15, .ref q_16, .ref q_17, .ref q_18])), (q_4, .inl (cA_19, 301, .inl (fun _ => 0))), (q_15, .inl (cA_20, 301, .inl (fun _ => 0)))] sz) := by
  refine Met.ofW (cc := cX7_begin) (maxL := 5) (ret := none) (by decide) rfl ?_
  intro p e s m args below meth c s₁ B hml hv
  obtain ⟨rfl, hsz, hP, hK, hD0⟩ := hv
  have hx := B.exec
  have hb := B.bytes
  have hr := B.returns
  have hts := atoms_spec (ws := v_X7_begin) B.pre
  have hown : s.vm.findClass RX7 = some m.cls := findClass_of_methodNamed B.named
  have hlocks := B.notSynchronized
  have ow : ∀ {k : Nat} {w : Cond}, o_X7_begin[k]? = some w → w.before ([.ref q_60, .ref q_1, .int 0, .ref q_3] : List Value).toArray s = true := fun h => hts _ (mow_X7_begin _ (List.mem_of_getElem? h))
  subst hsz
  have hD := hD0.self (sz := s.heap.size)
  generalize hAe : va_A [(q_60, .inr (7, [.int 0, .ref q_61, .int 0, .int 0, .int 1, .int 0, .int 0, .int 0, .null, .int 0, .int 0, .int 0, .int 0, .long 0, .int 0, .int (-1), .ref q_62, .ref q_63])), (q_62, .inl (cA_64, 60, .inl (fun _ => 0))), (q_63, .inl (cA_65, 60, .inl (fun _ => 0))), (q_3, .inr (0, [.int 0, .int 0, .int 0, .int 0, .ref q_4, .ref q_5, .ref q_6, .ref q_7, .ref q_8, .ref q_9, .ref q_10, .ref q_11, .ref q_12, .ref q_13, .ref q_14, .ref q_15, .ref q_16, .ref q_17, .ref q_18])), (q_4, .inl (cA_19, 301, .inl (fun _ => 0))), (q_15, .inl (cA_20, 301, .inl (fun _ => 0)))] s.heap.size = A at hD ⊢
  have hA : ∀ q : Nat, s.heap.size ≤ q → A q := fun q h => by rw [← hAe]; exact Or.inr h
  have hS : va_S A s.heap s.heap [] := va_S.rf
  have hP : va_P (dC, dI) vwP [(q_60, .inr (7, [.int 0, .ref q_61, .int 0, .int 0, .int 1, .int 0, .int 0, .int 0, .null, .int 0, .int 0, .int 0, .int 0, .long 0, .int 0, .int (-1), .ref q_62, .ref q_63])), (q_62, .inl (cA_64, 60, .inl (fun _ => 0))), (q_63, .inl (cA_65, 60, .inl (fun _ => 0))), (q_3, .inr (0, [.int 0, .int 0, .int 0, .int 0, .ref q_4, .ref q_5, .ref q_6, .ref q_7, .ref q_8, .ref q_9, .ref q_10, .ref q_11, .ref q_12, .ref q_13, .ref q_14, .ref q_15, .ref q_16, .ref q_17, .ref q_18])), (q_4, .inl (cA_19, 301, .inl (fun _ => 0))), (q_15, .inl (cA_20, 301, .inl (fun _ => 0)))] s.heap := hP
  have hl := lv_entry ([.ref q_60, .ref q_1, .int 0, .ref q_3]) (n := 5) (Nat.le_of_ble_eq_true rfl)
  rw [lg_entry_eq]
  generalize (lg_sl ([.ref q_60, .ref q_1, .int 0, .ref q_3]) ++ List.replicate (5 - (lg_sl ([.ref q_60, .ref q_1, .int 0, .ref q_3])).length) Slot.unset).toArray = ls at hl ⊢
  have hl : lv_has ls 5 [(0, .ref q_60), (1, .ref q_1), (2, .int 0), (3, .ref q_3)] := hl
  obtain ⟨H, hH⟩ : ∃ H, H = s.heap := ⟨_, rfl⟩
  rw [← hH] at hP
  have hS : va_S A s.heap H [] := by rw [hH]; exact hS
  rw [← hH]
  refine lv_aload_n hx hb dX7_begin_0 rfl (lv_at hl 0 rfl) ?_
  refine lv_aload_n hx hb dX7_begin_1 rfl (lv_at hl 1 rfl) ?_
  refine va_put (D := (dC, dI)) (ci := 7) (v := .ref q_1) (ty := .array .byte) (C := RX7) (T := TX7) (N := 18) hx hb hts mem_X7_begin_0 tyX7 tyX7_ok nmX7 hown hK hP hD hS 0 rfl rfl 1 (by decide) (ow (k := 0) rfl) (fun _ h9 => h9) rfl (by decide +kernel) rfl rfl (Nat.le_of_ble_eq_true rfl) dX7_begin_2 (fun H locs hP hD hS => ?_)
  have hP : va_P (dC, dI) vwP [(q_60, .inr (7, [.int 0, .ref q_1, .int 0, .int 0, .int 1, .int 0, .int 0, .int 0, .null, .int 0, .int 0, .int 0, .int 0, .long 0, .int 0, .int (-1), .ref q_62, .ref q_63])), (q_62, .inl (cA_64, 60, .inl (fun _ => 0))), (q_63, .inl (cA_65, 60, .inl (fun _ => 0))), (q_3, .inr (0, [.int 0, .int 0, .int 0, .int 0, .ref q_4, .ref q_5, .ref q_6, .ref q_7, .ref q_8, .ref q_9, .ref q_10, .ref q_11, .ref q_12, .ref q_13, .ref q_14, .ref q_15, .ref q_16, .ref q_17, .ref q_18])), (q_4, .inl (cA_19, 301, .inl (fun _ => 0))), (q_15, .inl (cA_20, 301, .inl (fun _ => 0)))] H := hP
  have hD : va_D A [(q_60, .inr (7, [.int 0, .ref q_1, .int 0, .int 0, .int 1, .int 0, .int 0, .int 0, .null, .int 0, .int 0, .int 0, .int 0, .long 0, .int 0, .int (-1), .ref q_62, .ref q_63])), (q_62, .inl (cA_64, 60, .inl (fun _ => 0))), (q_63, .inl (cA_65, 60, .inl (fun _ => 0))), (q_3, .inr (0, [.int 0, .int 0, .int 0, .int 0, .ref q_4, .ref q_5, .ref q_6, .ref q_7, .ref q_8, .ref q_9, .ref q_10, .ref q_11, .ref q_12, .ref q_13, .ref q_14, .ref q_15, .ref q_16, .ref q_17, .ref q_18])), (q_4, .inl (cA_19, 301, .inl (fun _ => 0))), (q_15, .inl (cA_20, 301, .inl (fun _ => 0)))] := hD
  refine lv_aload_n hx hb dX7_begin_5 rfl (lv_at hl 0 rfl) ?_
  refine lv_iload_n hx hb dX7_begin_6 rfl (lv_at hl 2 rfl) ?_
  refine va_put (D := (dC, dI)) (ci := 7) (v := .int 0) (ty := .int) (C := RX7) (T := TX7) (N := 18) hx hb hts mem_X7_begin_0 tyX7 tyX7_ok nmX7 hown hK hP hD hS 0 rfl rfl 2 (by decide) (ow (k := 1) rfl) (fun _ h9 => h9) rfl (by decide +kernel) rfl rfl (Nat.le_of_ble_eq_true rfl) dX7_begin_7 (fun H locs hP hD hS => ?_)
  have hP : va_P (dC, dI) vwP [(q_60, .inr (7, [.int 0, .ref q_1, .int 0, .int 0, .int 1, .int 0, .int 0, .int 0, .null, .int 0, .int 0, .int 0, .int 0, .long 0, .int 0, .int (-1), .ref q_62, .ref q_63])), (q_62, .inl (cA_64, 60, .inl (fun _ => 0))), (q_63, .inl (cA_65, 60, .inl (fun _ => 0))), (q_3, .inr (0, [.int 0, .int 0, .int 0, .int 0, .ref q_4, .ref q_5, .ref q_6, .ref q_7, .ref q_8, .ref q_9, .ref q_10, .ref q_11, .ref q_12, .ref q_13, .ref q_14, .ref q_15, .ref q_16, .ref q_17, .ref q_18])), (q_4, .inl (cA_19, 301, .inl (fun _ => 0))), (q_15, .inl (cA_20, 301, .inl (fun _ => 0)))] H := hP
  have hD : va_D A [(q_60, .inr (7, [.int 0, .ref q_1, .int 0, .int 0, .int 1, .int 0, .int 0, .int 0, .null, .int 0, .int 0, .int 0, .int 0, .long 0, .int 0, .int (-1), .ref q_62, .ref q_63])), (q_62, .inl (cA_64, 60, .inl (fun _ => 0))), (q_63, .inl (cA_65, 60, .inl (fun _ => 0))), (q_3, .inr (0, [.int 0, .int 0, .int 0, .int 0, .ref q_4, .ref q_5, .ref q_6, .ref q_7, .ref q_8, .ref q_9, .ref q_10, .ref q_11, .ref q_12, .ref q_13, .ref q_14, .ref q_15, .ref q_16, .ref q_17, .ref q_18])), (q_4, .inl (cA_19, 301, .inl (fun _ => 0))), (q_15, .inl (cA_20, 301, .inl (fun _ => 0)))] := hD
  refine lv_aload_n hx hb dX7_begin_10 rfl (lv_at hl 0 rfl) ?_
  refine lv_aload_n hx hb dX7_begin_11 rfl (lv_at hl 3 rfl) ?_
  refine va_put (D := (dC, dI)) (ci := 7) (v := .ref q_3) (ty := .object "SsaForge$Code") (C := RX7) (T := TX7) (N := 18) hx hb hts mem_X7_begin_0 tyX7 tyX7_ok nmX7 hown hK hP hD hS 0 rfl rfl 8 (by decide) (ow (k := 2) rfl) (fun _ h9 => h9) rfl (by decide +kernel) rfl rfl (Nat.le_of_ble_eq_true rfl) dX7_begin_12 (fun H locs hP hD hS => ?_)
  have hP : va_P (dC, dI) vwP [(q_60, .inr (7, [.int 0, .ref q_1, .int 0, .int 0, .int 1, .int 0, .int 0, .int 0, .ref q_3, .int 0, .int 0, .int 0, .int 0, .long 0, .int 0, .int (-1), .ref q_62, .ref q_63])), (q_62, .inl (cA_64, 60, .inl (fun _ => 0))), (q_63, .inl (cA_65, 60, .inl (fun _ => 0))), (q_3, .inr (0, [.int 0, .int 0, .int 0, .int 0, .ref q_4, .ref q_5, .ref q_6, .ref q_7, .ref q_8, .ref q_9, .ref q_10, .ref q_11, .ref q_12, .ref q_13, .ref q_14, .ref q_15, .ref q_16, .ref q_17, .ref q_18])), (q_4, .inl (cA_19, 301, .inl (fun _ => 0))), (q_15, .inl (cA_20, 301, .inl (fun _ => 0)))] H := hP
  have hD : va_D A [(q_60, .inr (7, [.int 0, .ref q_1, .int 0, .int 0, .int 1, .int 0, .int 0, .int 0, .ref q_3, .int 0, .int 0, .int 0, .int 0, .long 0, .int 0, .int (-1), .ref q_62, .ref q_63])), (q_62, .inl (cA_64, 60, .inl (fun _ => 0))), (q_63, .inl (cA_65, 60, .inl (fun _ => 0))), (q_3, .inr (0, [.int 0, .int 0, .int 0, .int 0, .ref q_4, .ref q_5, .ref q_6, .ref q_7, .ref q_8, .ref q_9, .ref q_10, .ref q_11, .ref q_12, .ref q_13, .ref q_14, .ref q_15, .ref q_16, .ref q_17, .ref q_18])), (q_4, .inl (cA_19, 301, .inl (fun _ => 0))), (q_15, .inl (cA_20, 301, .inl (fun _ => 0)))] := hD
  refine lv_aload_n hx hb dX7_begin_15 rfl (lv_at hl 0 rfl) ?_
  refine lv_iconst (v := 0) hx hb dX7_begin_16 (by decide) ?_
  refine va_put (D := (dC, dI)) (ci := 7) (v := .int 0) (ty := .int) (C := RX7) (T := TX7) (N := 18) hx hb hts mem_X7_begin_0 tyX7 tyX7_ok nmX7 hown hK hP hD hS 0 rfl rfl 3 (by decide) (ow (k := 3) rfl) (fun _ h9 => h9) rfl (by decide +kernel) rfl rfl (Nat.le_of_ble_eq_true rfl) dX7_begin_17 (fun H locs hP hD hS => ?_)
  have hP : va_P (dC, dI) vwP [(q_60, .inr (7, [.int 0, .ref q_1, .int 0, .int 0, .int 1, .int 0, .int 0, .int 0, .ref q_3, .int 0, .int 0, .int 0, .int 0, .long 0, .int 0, .int (-1), .ref q_62, .ref q_63])), (q_62, .inl (cA_64, 60, .inl (fun _ => 0))), (q_63, .inl (cA_65, 60, .inl (fun _ => 0))), (q_3, .inr (0, [.int 0, .int 0, .int 0, .int 0, .ref q_4, .ref q_5, .ref q_6, .ref q_7, .ref q_8, .ref q_9, .ref q_10, .ref q_11, .ref q_12, .ref q_13, .ref q_14, .ref q_15, .ref q_16, .ref q_17, .ref q_18])), (q_4, .inl (cA_19, 301, .inl (fun _ => 0))), (q_15, .inl (cA_20, 301, .inl (fun _ => 0)))] H := hP
  have hD : va_D A [(q_60, .inr (7, [.int 0, .ref q_1, .int 0, .int 0, .int 1, .int 0, .int 0, .int 0, .ref q_3, .int 0, .int 0, .int 0, .int 0, .long 0, .int 0, .int (-1), .ref q_62, .ref q_63])), (q_62, .inl (cA_64, 60, .inl (fun _ => 0))), (q_63, .inl (cA_65, 60, .inl (fun _ => 0))), (q_3, .inr (0, [.int 0, .int 0, .int 0, .int 0, .ref q_4, .ref q_5, .ref q_6, .ref q_7, .ref q_8, .ref q_9, .ref q_10, .ref q_11, .ref q_12, .ref q_13, .ref q_14, .ref q_15, .ref q_16, .ref q_17, .ref q_18])), (q_4, .inl (cA_19, 301, .inl (fun _ => 0))), (q_15, .inl (cA_20, 301, .inl (fun _ => 0)))] := hD
  refine lv_aload_n hx hb dX7_begin_20 rfl (lv_at hl 0 rfl) ?_
  refine lv_iconst (v := 1) hx hb dX7_begin_21 (by decide) ?_
  refine va_put (D := (dC, dI)) (ci := 7) (v := .int 1) (ty := .int) (C := RX7) (T := TX7) (N := 18) hx hb hts mem_X7_begin_0 tyX7 tyX7_ok nmX7 hown hK hP hD hS 0 rfl rfl 4 (by decide) (ow (k := 4) rfl) (fun _ h9 => h9) rfl (by decide +kernel) rfl rfl (Nat.le_of_ble_eq_true rfl) dX7_begin_22 (fun H locs hP hD hS => ?_)
  have hP : va_P (dC, dI) vwP [(q_60, .inr (7, [.int 0, .ref q_1, .int 0, .int 0, .int 1, .int 0, .int 0, .int 0, .ref q_3, .int 0, .int 0, .int 0, .int 0, .long 0, .int 0, .int (-1), .ref q_62, .ref q_63])), (q_62, .inl (cA_64, 60, .inl (fun _ => 0))), (q_63, .inl (cA_65, 60, .inl (fun _ => 0))), (q_3, .inr (0, [.int 0, .int 0, .int 0, .int 0, .ref q_4, .ref q_5, .ref q_6, .ref q_7, .ref q_8, .ref q_9, .ref q_10, .ref q_11, .ref q_12, .ref q_13, .ref q_14, .ref q_15, .ref q_16, .ref q_17, .ref q_18])), (q_4, .inl (cA_19, 301, .inl (fun _ => 0))), (q_15, .inl (cA_20, 301, .inl (fun _ => 0)))] H := hP
  have hD : va_D A [(q_60, .inr (7, [.int 0, .ref q_1, .int 0, .int 0, .int 1, .int 0, .int 0, .int 0, .ref q_3, .int 0, .int 0, .int 0, .int 0, .long 0, .int 0, .int (-1), .ref q_62, .ref q_63])), (q_62, .inl (cA_64, 60, .inl (fun _ => 0))), (q_63, .inl (cA_65, 60, .inl (fun _ => 0))), (q_3, .inr (0, [.int 0, .int 0, .int 0, .int 0, .ref q_4, .ref q_5, .ref q_6, .ref q_7, .ref q_8, .ref q_9, .ref q_10, .ref q_11, .ref q_12, .ref q_13, .ref q_14, .ref q_15, .ref q_16, .ref q_17, .ref q_18])), (q_4, .inl (cA_19, 301, .inl (fun _ => 0))), (q_15, .inl (cA_20, 301, .inl (fun _ => 0)))] := hD
  refine lv_aload_n hx hb dX7_begin_25 rfl (lv_at hl 0 rfl) ?_
  refine lv_iconst (v := 0) hx hb dX7_begin_26 (by decide) ?_
  refine va_put (D := (dC, dI)) (ci := 7) (v := .int 0) (ty := .int) (C := RX7) (T := TX7) (N := 18) hx hb hts mem_X7_begin_0 tyX7 tyX7_ok nmX7 hown hK hP hD hS 0 rfl rfl 7 (by decide) (ow (k := 5) rfl) (fun _ h9 => h9) rfl (by decide +kernel) rfl rfl (Nat.le_of_ble_eq_true rfl) dX7_begin_27 (fun H locs hP hD hS => ?_)
  have hP : va_P (dC, dI) vwP [(q_60, .inr (7, [.int 0, .ref q_1, .int 0, .int 0, .int 1, .int 0, .int 0, .int 0, .ref q_3, .int 0, .int 0, .int 0, .int 0, .long 0, .int 0, .int (-1), .ref q_62, .ref q_63])), (q_62, .inl (cA_64, 60, .inl (fun _ => 0))), (q_63, .inl (cA_65, 60, .inl (fun _ => 0))), (q_3, .inr (0, [.int 0, .int 0, .int 0, .int 0, .ref q_4, .ref q_5, .ref q_6, .ref q_7, .ref q_8, .ref q_9, .ref q_10, .ref q_11, .ref q_12, .ref q_13, .ref q_14, .ref q_15, .ref q_16, .ref q_17, .ref q_18])), (q_4, .inl (cA_19, 301, .inl (fun _ => 0))), (q_15, .inl (cA_20, 301, .inl (fun _ => 0)))] H := hP
  have hD : va_D A [(q_60, .inr (7, [.int 0, .ref q_1, .int 0, .int 0, .int 1, .int 0, .int 0, .int 0, .ref q_3, .int 0, .int 0, .int 0, .int 0, .long 0, .int 0, .int (-1), .ref q_62, .ref q_63])), (q_62, .inl (cA_64, 60, .inl (fun _ => 0))), (q_63, .inl (cA_65, 60, .inl (fun _ => 0))), (q_3, .inr (0, [.int 0, .int 0, .int 0, .int 0, .ref q_4, .ref q_5, .ref q_6, .ref q_7, .ref q_8, .ref q_9, .ref q_10, .ref q_11, .ref q_12, .ref q_13, .ref q_14, .ref q_15, .ref q_16, .ref q_17, .ref q_18])), (q_4, .inl (cA_19, 301, .inl (fun _ => 0))), (q_15, .inl (cA_20, 301, .inl (fun _ => 0)))] := hD
  refine lv_aload_n hx hb dX7_begin_30 rfl (lv_at hl 0 rfl) ?_
  refine lv_iconst (v := 0) hx hb dX7_begin_31 (by decide) ?_
  refine va_put (D := (dC, dI)) (ci := 7) (v := .int 0) (ty := .int) (C := RX7) (T := TX7) (N := 18) hx hb hts mem_X7_begin_0 tyX7 tyX7_ok nmX7 hown hK hP hD hS 0 rfl rfl 9 (by decide) (ow (k := 6) rfl) (fun _ h9 => h9) rfl (by decide +kernel) rfl rfl (Nat.le_of_ble_eq_true rfl) dX7_begin_32 (fun H locs hP hD hS => ?_)
  have hP : va_P (dC, dI) vwP [(q_60, .inr (7, [.int 0, .ref q_1, .int 0, .int 0, .int 1, .int 0, .int 0, .int 0, .ref q_3, .int 0, .int 0, .int 0, .int 0, .long 0, .int 0, .int (-1), .ref q_62, .ref q_63])), (q_62, .inl (cA_64, 60, .inl (fun _ => 0))), (q_63, .inl (cA_65, 60, .inl (fun _ => 0))), (q_3, .inr (0, [.int 0, .int 0, .int 0, .int 0, .ref q_4, .ref q_5, .ref q_6, .ref q_7, .ref q_8, .ref q_9, .ref q_10, .ref q_11, .ref q_12, .ref q_13, .ref q_14, .ref q_15, .ref q_16, .ref q_17, .ref q_18])), (q_4, .inl (cA_19, 301, .inl (fun _ => 0))), (q_15, .inl (cA_20, 301, .inl (fun _ => 0)))] H := hP
  have hD : va_D A [(q_60, .inr (7, [.int 0, .ref q_1, .int 0, .int 0, .int 1, .int 0, .int 0, .int 0, .ref q_3, .int 0, .int 0, .int 0, .int 0, .long 0, .int 0, .int (-1), .ref q_62, .ref q_63])), (q_62, .inl (cA_64, 60, .inl (fun _ => 0))), (q_63, .inl (cA_65, 60, .inl (fun _ => 0))), (q_3, .inr (0, [.int 0, .int 0, .int 0, .int 0, .ref q_4, .ref q_5, .ref q_6, .ref q_7, .ref q_8, .ref q_9, .ref q_10, .ref q_11, .ref q_12, .ref q_13, .ref q_14, .ref q_15, .ref q_16, .ref q_17, .ref q_18])), (q_4, .inl (cA_19, 301, .inl (fun _ => 0))), (q_15, .inl (cA_20, 301, .inl (fun _ => 0)))] := hD
  refine lv_aload_n hx hb dX7_begin_35 rfl (lv_at hl 0 rfl) ?_
  refine lv_iconst (v := 0) hx hb dX7_begin_36 (by decide) ?_
  refine va_put (D := (dC, dI)) (ci := 7) (v := .int 0) (ty := .int) (C := RX7) (T := TX7) (N := 18) hx hb hts mem_X7_begin_0 tyX7 tyX7_ok nmX7 hown hK hP hD hS 0 rfl rfl 10 (by decide) (ow (k := 7) rfl) (fun _ h9 => h9) rfl (by decide +kernel) rfl rfl (Nat.le_of_ble_eq_true rfl) dX7_begin_37 (fun H locs hP hD hS => ?_)
  have hP : va_P (dC, dI) vwP [(q_60, .inr (7, [.int 0, .ref q_1, .int 0, .int 0, .int 1, .int 0, .int 0, .int 0, .ref q_3, .int 0, .int 0, .int 0, .int 0, .long 0, .int 0, .int (-1), .ref q_62, .ref q_63])), (q_62, .inl (cA_64, 60, .inl (fun _ => 0))), (q_63, .inl (cA_65, 60, .inl (fun _ => 0))), (q_3, .inr (0, [.int 0, .int 0, .int 0, .int 0, .ref q_4, .ref q_5, .ref q_6, .ref q_7, .ref q_8, .ref q_9, .ref q_10, .ref q_11, .ref q_12, .ref q_13, .ref q_14, .ref q_15, .ref q_16, .ref q_17, .ref q_18])), (q_4, .inl (cA_19, 301, .inl (fun _ => 0))), (q_15, .inl (cA_20, 301, .inl (fun _ => 0)))] H := hP
  have hD : va_D A [(q_60, .inr (7, [.int 0, .ref q_1, .int 0, .int 0, .int 1, .int 0, .int 0, .int 0, .ref q_3, .int 0, .int 0, .int 0, .int 0, .long 0, .int 0, .int (-1), .ref q_62, .ref q_63])), (q_62, .inl (cA_64, 60, .inl (fun _ => 0))), (q_63, .inl (cA_65, 60, .inl (fun _ => 0))), (q_3, .inr (0, [.int 0, .int 0, .int 0, .int 0, .ref q_4, .ref q_5, .ref q_6, .ref q_7, .ref q_8, .ref q_9, .ref q_10, .ref q_11, .ref q_12, .ref q_13, .ref q_14, .ref q_15, .ref q_16, .ref q_17, .ref q_18])), (q_4, .inl (cA_19, 301, .inl (fun _ => 0))), (q_15, .inl (cA_20, 301, .inl (fun _ => 0)))] := hD
  refine lv_aload_n hx hb dX7_begin_40 rfl (lv_at hl 0 rfl) ?_
  refine lv_iconst (v := (-1)) hx hb dX7_begin_41 (by decide) ?_
  refine va_put (D := (dC, dI)) (ci := 7) (v := .int (-1)) (ty := .int) (C := RX7) (T := TX7) (N := 18) hx hb hts mem_X7_begin_0 tyX7 tyX7_ok nmX7 hown hK hP hD hS 0 rfl rfl 15 (by decide) (ow (k := 8) rfl) (fun _ h9 => h9) rfl (by decide +kernel) rfl rfl (Nat.le_of_ble_eq_true rfl) dX7_begin_42 (fun H locs hP hD hS => ?_)
  have hP : va_P (dC, dI) vwP [(q_60, .inr (7, [.int 0, .ref q_1, .int 0, .int 0, .int 1, .int 0, .int 0, .int 0, .ref q_3, .int 0, .int 0, .int 0, .int 0, .long 0, .int 0, .int (-1), .ref q_62, .ref q_63])), (q_62, .inl (cA_64, 60, .inl (fun _ => 0))), (q_63, .inl (cA_65, 60, .inl (fun _ => 0))), (q_3, .inr (0, [.int 0, .int 0, .int 0, .int 0, .ref q_4, .ref q_5, .ref q_6, .ref q_7, .ref q_8, .ref q_9, .ref q_10, .ref q_11, .ref q_12, .ref q_13, .ref q_14, .ref q_15, .ref q_16, .ref q_17, .ref q_18])), (q_4, .inl (cA_19, 301, .inl (fun _ => 0))), (q_15, .inl (cA_20, 301, .inl (fun _ => 0)))] H := hP
  have hD : va_D A [(q_60, .inr (7, [.int 0, .ref q_1, .int 0, .int 0, .int 1, .int 0, .int 0, .int 0, .ref q_3, .int 0, .int 0, .int 0, .int 0, .long 0, .int 0, .int (-1), .ref q_62, .ref q_63])), (q_62, .inl (cA_64, 60, .inl (fun _ => 0))), (q_63, .inl (cA_65, 60, .inl (fun _ => 0))), (q_3, .inr (0, [.int 0, .int 0, .int 0, .int 0, .ref q_4, .ref q_5, .ref q_6, .ref q_7, .ref q_8, .ref q_9, .ref q_10, .ref q_11, .ref q_12, .ref q_13, .ref q_14, .ref q_15, .ref q_16, .ref q_17, .ref q_18])), (q_4, .inl (cA_19, 301, .inl (fun _ => 0))), (q_15, .inl (cA_20, 301, .inl (fun _ => 0)))] := hD
  refine lv_aload_n hx hb dX7_begin_45 rfl (lv_at hl 0 rfl) ?_
  refine lv_iconst (v := 0) hx hb dX7_begin_46 (by decide) ?_
  refine va_put (D := (dC, dI)) (ci := 7) (v := .int 0) (ty := .int) (C := RX7) (T := TX7) (N := 18) hx hb hts mem_X7_begin_0 tyX7 tyX7_ok nmX7 hown hK hP hD hS 0 rfl rfl 0 (by decide) (ow (k := 9) rfl) (fun _ h9 => h9) rfl (by decide +kernel) rfl rfl (Nat.le_of_ble_eq_true rfl) dX7_begin_47 (fun H locs hP hD hS => ?_)
  have hP : va_P (dC, dI) vwP [(q_60, .inr (7, [.int 0, .ref q_1, .int 0, .int 0, .int 1, .int 0, .int 0, .int 0, .ref q_3, .int 0, .int 0, .int 0, .int 0, .long 0, .int 0, .int (-1), .ref q_62, .ref q_63])), (q_62, .inl (cA_64, 60, .inl (fun _ => 0))), (q_63, .inl (cA_65, 60, .inl (fun _ => 0))), (q_3, .inr (0, [.int 0, .int 0, .int 0, .int 0, .ref q_4, .ref q_5, .ref q_6, .ref q_7, .ref q_8, .ref q_9, .ref q_10, .ref q_11, .ref q_12, .ref q_13, .ref q_14, .ref q_15, .ref q_16, .ref q_17, .ref q_18])), (q_4, .inl (cA_19, 301, .inl (fun _ => 0))), (q_15, .inl (cA_20, 301, .inl (fun _ => 0)))] H := hP
  have hD : va_D A [(q_60, .inr (7, [.int 0, .ref q_1, .int 0, .int 0, .int 1, .int 0, .int 0, .int 0, .ref q_3, .int 0, .int 0, .int 0, .int 0, .long 0, .int 0, .int (-1), .ref q_62, .ref q_63])), (q_62, .inl (cA_64, 60, .inl (fun _ => 0))), (q_63, .inl (cA_65, 60, .inl (fun _ => 0))), (q_3, .inr (0, [.int 0, .int 0, .int 0, .int 0, .ref q_4, .ref q_5, .ref q_6, .ref q_7, .ref q_8, .ref q_9, .ref q_10, .ref q_11, .ref q_12, .ref q_13, .ref q_14, .ref q_15, .ref q_16, .ref q_17, .ref q_18])), (q_4, .inl (cA_19, 301, .inl (fun _ => 0))), (q_15, .inl (cA_20, 301, .inl (fun _ => 0)))] := hD
  refine lv_aload_n hx hb dX7_begin_50 rfl (lv_at hl 3 rfl) ?_
  have hPc := hP.sub (ws' := [(q_3, .inr (0, [.int 0, .int 0, .int 0, .int 0, .ref q_4, .ref q_5, .ref q_6, .ref q_7, .ref q_8, .ref q_9, .ref q_10, .ref q_11, .ref q_12, .ref q_13, .ref q_14, .ref q_15, .ref q_16, .ref q_17, .ref q_18])), (q_4, .inl (cA_19, 301, .inl (fun _ => 0))), (q_15, .inl (cA_20, 301, .inl (fun _ => 0)))]) [3, 4, 5] rfl
  have hDc := hD.sub (ws' := [(q_3, .inr (0, [.int 0, .int 0, .int 0, .int 0, .ref q_4, .ref q_5, .ref q_6, .ref q_7, .ref q_8, .ref q_9, .ref q_10, .ref q_11, .ref q_12, .ref q_13, .ref q_14, .ref q_15, .ref q_16, .ref q_17, .ref q_18])), (q_4, .inl (cA_19, 301, .inl (fun _ => 0))), (q_15, .inl (cA_20, 301, .inl (fun _ => 0)))]) [3, 4, 5] (by decide) rfl
  have hKc := hK.sub (tys' := [(cA_19, .int), (cA_20, .int)]) [0, 1] rfl
  have hFc := va_free (wc := [(q_3, .inr (0, [.int 0, .int 0, .int 0, .int 0, .ref q_4, .ref q_5, .ref q_6, .ref q_7, .ref q_8, .ref q_9, .ref q_10, .ref q_11, .ref q_12, .ref q_13, .ref q_14, .ref q_15, .ref q_16, .ref q_17, .ref q_18])), (q_4, .inl (cA_19, 301, .inl (fun _ => 0))), (q_15, .inl (cA_20, 301, .inl (fun _ => 0)))]) hD hS hA [3, 4, 5] rfl
  refine va_callv (va_runV (As := []) (rest := []) ⟨hx, hb, hml, hown, hts⟩ (c_X0_clear l dC dI q_3 q_4 q_5 q_6 q_7 q_8 q_9 q_10 q_11 q_12 q_13 q_14 q_15 q_16 q_17 q_18 cA_19 cA_20 H.size) (cwV 0 hts g_X7_begin_X0_clear rfl rfl rfl (by decide +kernel) ⟨(Nat.le_of_ble_eq_true rfl), (Nat.le_of_ble_eq_true rfl)⟩) ⟨fun a U g mk q => by obtain ⟨q0, q1, qP, qK, qD⟩ := q; exact ⟨q0, q1, qP, va_K.moved (u := U) (U := U.calling g mk a) (Vm.Alike.refl U.vm) qK, qD⟩, va_recv hKc hPc (ci := 0) (q0 := 0) rfl rfl, fun U hU hW => ⟨rfl, by rw [hU], by rw [hU]; exact hPc, va_K.moved hW.alike hKc, hDc.weaken (fun _ _ _ _ => trivial)⟩⟩ rfl rfl hl.1 rfl (lv_room (Nat.le_of_ble_eq_true rfl)) dX7_begin_51 ⟨(Nat.le_of_ble_eq_true rfl), (Nat.le_of_ble_eq_true rfl)⟩) hS (fun q _ h => hFc q h) hFc (fun  u t H1 locs ht hvm hw hB hz1 hk1 hS => ?_)
  obtain ⟨g0_1, g1_2, hP1, hK1, hD1⟩ := hB
  rw [ht] at hP1
  have hK1 := va_K.moved hvm.symm hK1
  obtain ⟨hP, hD⟩ := va_join (wr := [(q_60, .inr (7, [.int 0, .ref q_1, .int 0, .int 0, .int 1, .int 0, .int 0, .int 0, .ref q_3, .int 0, .int 0, .int 0, .int 0, .long 0, .int 0, .int (-1), .ref q_62, .ref q_63])), (q_62, .inl (cA_64, 60, .inl (fun _ => 0))), (q_63, .inl (cA_65, 60, .inl (fun _ => 0)))]) (w1 := [(q_3, .inr (0, [.int 0, .int 0, .int 0, .int 0, .ref q_4, .ref q_5, .ref q_6, .ref q_7, .ref q_8, .ref q_9, .ref q_10, .ref q_11, .ref q_12, .ref q_13, .ref q_14, .ref q_15, .ref q_16, .ref q_17, .ref q_18])), (q_4, .inl (cA_19, 301, .inl g0_1)), (q_15, .inl (cA_20, 301, .inl g1_2))]) hP hD [3, 4, 5] [0, 1, 2] rfl rfl (by decide) (by decide) hk1 hFc hP1 hD1
  have hK := (hK.sub (tys' := [(cA_64, .boolean), (cA_65, .int)]) [2, 3] rfl).app hK1
  generalize H1 = H at hP hS ⊢
  have hP : va_P (dC, dI) vwP [(q_60, .inr (7, [.int 0, .ref q_1, .int 0, .int 0, .int 1, .int 0, .int 0, .int 0, .ref q_3, .int 0, .int 0, .int 0, .int 0, .long 0, .int 0, .int (-1), .ref q_62, .ref q_63])), (q_62, .inl (cA_64, 60, .inl (fun _ => 0))), (q_63, .inl (cA_65, 60, .inl (fun _ => 0))), (q_3, .inr (0, [.int 0, .int 0, .int 0, .int 0, .ref q_4, .ref q_5, .ref q_6, .ref q_7, .ref q_8, .ref q_9, .ref q_10, .ref q_11, .ref q_12, .ref q_13, .ref q_14, .ref q_15, .ref q_16, .ref q_17, .ref q_18])), (q_4, .inl (cA_19, 301, .inl g0_1)), (q_15, .inl (cA_20, 301, .inl g1_2))] H := hP
  have hD : va_D A [(q_60, .inr (7, [.int 0, .ref q_1, .int 0, .int 0, .int 1, .int 0, .int 0, .int 0, .ref q_3, .int 0, .int 0, .int 0, .int 0, .long 0, .int 0, .int (-1), .ref q_62, .ref q_63])), (q_62, .inl (cA_64, 60, .inl (fun _ => 0))), (q_63, .inl (cA_65, 60, .inl (fun _ => 0))), (q_3, .inr (0, [.int 0, .int 0, .int 0, .int 0, .ref q_4, .ref q_5, .ref q_6, .ref q_7, .ref q_8, .ref q_9, .ref q_10, .ref q_11, .ref q_12, .ref q_13, .ref q_14, .ref q_15, .ref q_16, .ref q_17, .ref q_18])), (q_4, .inl (cA_19, 301, .inl g0_1)), (q_15, .inl (cA_20, 301, .inl g1_2))] := hD
  have hK : va_K (dC, dI) vwP [(cA_64, .boolean), (cA_65, .int), (cA_19, .int), (cA_20, .int)] s := hK
  refine W.widen (k := 0) (n := 0) (Nat.le_of_ble_eq_true rfl) (Nat.le_of_ble_eq_true rfl) ?_
  refine lv_iconst (v := 0) hx hb dX7_begin_54 (by decide) ?_
  refine lv_istore (lv' := [(4, .int 0), (0, .ref q_60), (1, .ref q_1), (2, .int 0), (3, .ref q_3)]) hx hb dX7_begin_55 hl (by decide) rfl (fun ls hl => ?_)
  refine lv_iload hx hb dX7_begin_57 (lv_at hl 0 rfl) ?_
  refine lv_bipush (v := 60) hx hb dX7_begin_59 (by decide) ?_
  refine lv_icmp_ge (tgt := 86) hx hb dX7_begin_61 (by decide) (fun h9 => absurd h9 (by decide)) (fun _ => ?_)
  refine lv_aload_n hx hb dX7_begin_64 rfl (lv_at hl 1 rfl) ?_
  refine va_get (D := (dC, dI)) (ci := 7) (v := .ref q_62) (C := RX7) (T := TX7) (N := 18) hx hb hts mem_X7_begin_0 hown hK hP 0 rfl rfl 16 (by decide) (ow (k := 14) rfl) (fun _ h9 => h9) rfl dX7_begin_65 ?_
  refine lv_iload hx hb dX7_begin_68 (lv_at hl 0 rfl) ?_
  refine lv_iconst (v := 0) hx hb dX7_begin_70 (by decide) ?_
  refine va_zast hx hb hK hP hD hS 1 0 rfl rfl (show vp_in 0 60 by rw [vp_in_iff]; decide) dX7_begin_71 (fun H locs hP hD hS => ?_)
  have hP : va_P (dC, dI) vwP [(q_60, .inr (7, [.int 0, .ref q_1, .int 0, .int 0, .int 1, .int 0, .int 0, .int 0, .ref q_3, .int 0, .int 0, .int 0, .int 0, .long 0, .int 0, .int (-1), .ref q_62, .ref q_63])), (q_62, .inl (cA_64, 60, .inl (upd (fun _ => 0) (0 : Int32).toNatClampNeg (vp_nar .boolean 0)))), (q_63, .inl (cA_65, 60, .inl (fun _ => 0))), (q_3, .inr (0, [.int 0, .int 0, .int 0, .int 0, .ref q_4, .ref q_5, .ref q_6, .ref q_7, .ref q_8, .ref q_9, .ref q_10, .ref q_11, .ref q_12, .ref q_13, .ref q_14, .ref q_15, .ref q_16, .ref q_17, .ref q_18])), (q_4, .inl (cA_19, 301, .inl g0_1)), (q_15, .inl (cA_20, 301, .inl g1_2))] H := hP
  have hD : va_D A [(q_60, .inr (7, [.int 0, .ref q_1, .int 0, .int 0, .int 1, .int 0, .int 0, .int 0, .ref q_3, .int 0, .int 0, .int 0, .int 0, .long 0, .int 0, .int (-1), .ref q_62, .ref q_63])), (q_62, .inl (cA_64, 60, .inl (upd (fun _ => 0) (0 : Int32).toNatClampNeg (vp_nar .boolean 0)))), (q_63, .inl (cA_65, 60, .inl (fun _ => 0))), (q_3, .inr (0, [.int 0, .int 0, .int 0, .int 0, .ref q_4, .ref q_5, .ref q_6, .ref q_7, .ref q_8, .ref q_9, .ref q_10, .ref q_11, .ref q_12, .ref q_13, .ref q_14, .ref q_15, .ref q_16, .ref q_17, .ref q_18])), (q_4, .inl (cA_19, 301, .inl g0_1)), (q_15, .inl (cA_20, 301, .inl g1_2))] := hD
  generalize (upd (fun _ => 0) (0 : Int32).toNatClampNeg (vp_nar .boolean 0)) = f_3 at hP hD
  refine lv_aload_n hx hb dX7_begin_72 rfl (lv_at hl 1 rfl) ?_
  refine va_get (D := (dC, dI)) (ci := 7) (v := .ref q_63) (C := RX7) (T := TX7) (N := 18) hx hb hts mem_X7_begin_0 hown hK hP 0 rfl rfl 17 (by decide) (ow (k := 15) rfl) (fun _ h9 => h9) rfl dX7_begin_73 ?_
  refine lv_iload hx hb dX7_begin_76 (lv_at hl 0 rfl) ?_
  refine lv_iconst (v := (-1)) hx hb dX7_begin_78 (by decide) ?_
  refine va_iast hx hb hK hP hD hS 2 1 rfl rfl (show vp_in 0 60 by rw [vp_in_iff]; decide) dX7_begin_79 (fun H locs hP hD hS => ?_)
  have hP : va_P (dC, dI) vwP [(q_60, .inr (7, [.int 0, .ref q_1, .int 0, .int 0, .int 1, .int 0, .int 0, .int 0, .ref q_3, .int 0, .int 0, .int 0, .int 0, .long 0, .int 0, .int (-1), .ref q_62, .ref q_63])), (q_62, .inl (cA_64, 60, .inl f_3)), (q_63, .inl (cA_65, 60, .inl (upd (fun _ => 0) (0 : Int32).toNatClampNeg (-1)))), (q_3, .inr (0, [.int 0, .int 0, .int 0, .int 0, .ref q_4, .ref q_5, .ref q_6, .ref q_7, .ref q_8, .ref q_9, .ref q_10, .ref q_11, .ref q_12, .ref q_13, .ref q_14, .ref q_15, .ref q_16, .ref q_17, .ref q_18])), (q_4, .inl (cA_19, 301, .inl g0_1)), (q_15, .inl (cA_20, 301, .inl g1_2))] H := hP
  have hD : va_D A [(q_60, .inr (7, [.int 0, .ref q_1, .int 0, .int 0, .int 1, .int 0, .int 0, .int 0, .ref q_3, .int 0, .int 0, .int 0, .int 0, .long 0, .int 0, .int (-1), .ref q_62, .ref q_63])), (q_62, .inl (cA_64, 60, .inl f_3)), (q_63, .inl (cA_65, 60, .inl (upd (fun _ => 0) (0 : Int32).toNatClampNeg (-1)))), (q_3, .inr (0, [.int 0, .int 0, .int 0, .int 0, .ref q_4, .ref q_5, .ref q_6, .ref q_7, .ref q_8, .ref q_9, .ref q_10, .ref q_11, .ref q_12, .ref q_13, .ref q_14, .ref q_15, .ref q_16, .ref q_17, .ref q_18])), (q_4, .inl (cA_19, 301, .inl g0_1)), (q_15, .inl (cA_20, 301, .inl g1_2))] := hD
  generalize (upd (fun _ => 0) (0 : Int32).toNatClampNeg (-1)) = f_4 at hP hD
  refine lv_iinc (v := 1) (lv' := [(4, .int 1), (0, .ref q_60), (1, .ref q_1), (2, .int 0), (3, .ref q_3)]) hx hb dX7_begin_80 hl (k := 0) rfl (by decide) (by decide) rfl (fun ls hl => ?_)
  refine lv_goto (tgt := 57) hx hb dX7_begin_83 (by decide) ?_
  refine lv_iload hx hb dX7_begin_57 (lv_at hl 0 rfl) ?_
  refine lv_bipush (v := 60) hx hb dX7_begin_59 (by decide) ?_
  refine lv_icmp_ge (tgt := 86) hx hb dX7_begin_61 (by decide) (fun h9 => absurd h9 (by decide)) (fun _ => ?_)
  refine lv_aload_n hx hb dX7_begin_64 rfl (lv_at hl 1 rfl) ?_
  refine va_get (D := (dC, dI)) (ci := 7) (v := .ref q_62) (C := RX7) (T := TX7) (N := 18) hx hb hts mem_X7_begin_0 hown hK hP 0 rfl rfl 16 (by decide) (ow (k := 14) rfl) (fun _ h9 => h9) rfl dX7_begin_65 ?_
  refine lv_iload hx hb dX7_begin_68 (lv_at hl 0 rfl) ?_
  refine lv_iconst (v := 0) hx hb dX7_begin_70 (by decide) ?_
  refine va_zast hx hb hK hP hD hS 1 0 rfl rfl (show vp_in 1 60 by rw [vp_in_iff]; decide) dX7_begin_71 (fun H locs hP hD hS => ?_)
  have hP : va_P (dC, dI) vwP [(q_60, .inr (7, [.int 0, .ref q_1, .int 0, .int 0, .int 1, .int 0, .int 0, .int 0, .ref q_3, .int 0, .int 0, .int 0, .int 0, .long 0, .int 0, .int (-1), .ref q_62, .ref q_63])), (q_62, .inl (cA_64, 60, .inl (upd f_3 (1 : Int32).toNatClampNeg (vp_nar .boolean 0)))), (q_63, .inl (cA_65, 60, .inl f_4)), (q_3, .inr (0, [.int 0, .int 0, .int 0, .int 0, .ref q_4, .ref q_5, .ref q_6, .ref q_7, .ref q_8, .ref q_9, .ref q_10, .ref q_11, .ref q_12, .ref q_13, .ref q_14, .ref q_15, .ref q_16, .ref q_17, .ref q_18])), (q_4, .inl (cA_19, 301, .inl g0_1)), (q_15, .inl (cA_20, 301, .inl g1_2))] H := hP
  have hD : va_D A [(q_60, .inr (7, [.int 0, .ref q_1, .int 0, .int 0, .int 1, .int 0, .int 0, .int 0, .ref q_3, .int 0, .int 0, .int 0, .int 0, .long 0, .int 0, .int (-1), .ref q_62, .ref q_63])), (q_62, .inl (cA_64, 60, .inl (upd f_3 (1 : Int32).toNatClampNeg (vp_nar .boolean 0)))), (q_63, .inl (cA_65, 60, .inl f_4)), (q_3, .inr (0, [.int 0, .int 0, .int 0, .int 0, .ref q_4, .ref q_5, .ref q_6, .ref q_7, .ref q_8, .ref q_9, .ref q_10, .ref q_11, .ref q_12, .ref q_13, .ref q_14, .ref q_15, .ref q_16, .ref q_17, .ref q_18])), (q_4, .inl (cA_19, 301, .inl g0_1)), (q_15, .inl (cA_20, 301, .inl g1_2))] := hD
  generalize (upd f_3 (1 : Int32).toNatClampNeg (vp_nar .boolean 0)) = f_5 at hP hD
  refine lv_aload_n hx hb dX7_begin_72 rfl (lv_at hl 1 rfl) ?_
  refine va_get (D := (dC, dI)) (ci := 7) (v := .ref q_63) (C := RX7) (T := TX7) (N := 18) hx hb hts mem_X7_begin_0 hown hK hP 0 rfl rfl 17 (by decide) (ow (k := 15) rfl) (fun _ h9 => h9) rfl dX7_begin_73 ?_
  refine lv_iload hx hb dX7_begin_76 (lv_at hl 0 rfl) ?_
  refine lv_iconst (v := (-1)) hx hb dX7_begin_78 (by decide) ?_
  refine va_iast hx hb hK hP hD hS 2 1 rfl rfl (show vp_in 1 60 by rw [vp_in_iff]; decide) dX7_begin_79 (fun H locs hP hD hS => ?_)
  have hP : va_P (dC, dI) vwP [(q_60, .inr (7, [.int 0, .ref q_1, .int 0, .int 0, .int 1, .int 0, .int 0, .int 0, .ref q_3, .int 0, .int 0, .int 0, .int 0, .long 0, .int 0, .int (-1), .ref q_62, .ref q_63])), (q_62, .inl (cA_64, 60, .inl f_5)), (q_63, .inl (cA_65, 60, .inl (upd f_4 (1 : Int32).toNatClampNeg (-1)))), (q_3, .inr (0, [.int 0, .int 0, .int 0, .int 0, .ref q_4, .ref q_5, .ref q_6, .ref q_7, .ref q_8, .ref q_9, .ref q_10, .ref q_11, .ref q_12, .ref q_13, .ref q_14, .ref q_15, .ref q_16, .ref q_17, .ref q_18])), (q_4, .inl (cA_19, 301, .inl g0_1)), (q_15, .inl (cA_20, 301, .inl g1_2))] H := hP
  have hD : va_D A [(q_60, .inr (7, [.int 0, .ref q_1, .int 0, .int 0, .int 1, .int 0, .int 0, .int 0, .ref q_3, .int 0, .int 0, .int 0, .int 0, .long 0, .int 0, .int (-1), .ref q_62, .ref q_63])), (q_62, .inl (cA_64, 60, .inl f_5)), (q_63, .inl (cA_65, 60, .inl (upd f_4 (1 : Int32).toNatClampNeg (-1)))), (q_3, .inr (0, [.int 0, .int 0, .int 0, .int 0, .ref q_4, .ref q_5, .ref q_6, .ref q_7, .ref q_8, .ref q_9, .ref q_10, .ref q_11, .ref q_12, .ref q_13, .ref q_14, .ref q_15, .ref q_16, .ref q_17, .ref q_18])), (q_4, .inl (cA_19, 301, .inl g0_1)), (q_15, .inl (cA_20, 301, .inl g1_2))] := hD
  generalize (upd f_4 (1 : Int32).toNatClampNeg (-1)) = f_6 at hP hD
  refine lv_iinc (v := 2) (lv' := [(4, .int 2), (0, .ref q_60), (1, .ref q_1), (2, .int 0), (3, .ref q_3)]) hx hb dX7_begin_80 hl (k := 0) rfl (by decide) (by decide) rfl (fun ls hl => ?_)
  refine lv_goto (tgt := 57) hx hb dX7_begin_83 (by decide) ?_
  refine lv_iload hx hb dX7_begin_57 (lv_at hl 0 rfl) ?_
  refine lv_bipush (v := 60) hx hb dX7_begin_59 (by decide) ?_
  refine lv_icmp_ge (tgt := 86) hx hb dX7_begin_61 (by decide) (fun h9 => absurd h9 (by decide)) (fun _ => ?_)
  refine lv_aload_n hx hb dX7_begin_64 rfl (lv_at hl 1 rfl) ?_
  refine va_get (D := (dC, dI)) (ci := 7) (v := .ref q_62) (C := RX7) (T := TX7) (N := 18) hx hb hts mem_X7_begin_0 hown hK hP 0 rfl rfl 16 (by decide) (ow (k := 14) rfl) (fun _ h9 => h9) rfl dX7_begin_65 ?_
  refine lv_iload hx hb dX7_begin_68 (lv_at hl 0 rfl) ?_
  refine lv_iconst (v := 0) hx hb dX7_begin_70 (by decide) ?_
  refine va_zast hx hb hK hP hD hS 1 0 rfl rfl (show vp_in 2 60 by rw [vp_in_iff]; decide) dX7_begin_71 (fun H locs hP hD hS => ?_)
  have hP : va_P (dC, dI) vwP [(q_60, .inr (7, [.int 0, .ref q_1, .int 0, .int 0, .int 1, .int 0, .int 0, .int 0, .ref q_3, .int 0, .int 0, .int 0, .int 0, .long 0, .int 0, .int (-1), .ref q_62, .ref q_63])), (q_62, .inl (cA_64, 60, .inl (upd f_5 (2 : Int32).toNatClampNeg (vp_nar .boolean 0)))), (q_63, .inl (cA_65, 60, .inl f_6)), (q_3, .inr (0, [.int 0, .int 0, .int 0, .int 0, .ref q_4, .ref q_5, .ref q_6, .ref q_7, .ref q_8, .ref q_9, .ref q_10, .ref q_11, .ref q_12, .ref q_13, .ref q_14, .ref q_15, .ref q_16, .ref q_17, .ref q_18])), (q_4, .inl (cA_19, 301, .inl g0_1)), (q_15, .inl (cA_20, 301, .inl g1_2))] H := hP
  have hD : va_D A [(q_60, .inr (7, [.int 0, .ref q_1, .int 0, .int 0, .int 1, .int 0, .int 0, .int 0, .ref q_3, .int 0, .int 0, .int 0, .int 0, .long 0, .int 0, .int (-1), .ref q_62, .ref q_63])), (q_62, .inl (cA_64, 60, .inl (upd f_5 (2 : Int32).toNatClampNeg (vp_nar .boolean 0)))), (q_63, .inl (cA_65, 60, .inl f_6)), (q_3, .inr (0, [.int 0, .int 0, .int 0, .int 0, .ref q_4, .ref q_5, .ref q_6, .ref q_7, .ref q_8, .ref q_9, .ref q_10, .ref q_11, .ref q_12, .ref q_13, .ref q_14, .ref q_15, .ref q_16, .ref q_17, .ref q_18])), (q_4, .inl (cA_19, 301, .inl g0_1)), (q_15, .inl (cA_20, 301, .inl g1_2))] := hD
  generalize (upd f_5 (2 : Int32).toNatClampNeg (vp_nar .boolean 0)) = f_7 at hP hD
  refine lv_aload_n hx hb dX7_begin_72 rfl (lv_at hl 1 rfl) ?_
  refine va_get (D := (dC, dI)) (ci := 7) (v := .ref q_63) (C := RX7) (T := TX7) (N := 18) hx hb hts mem_X7_begin_0 hown hK hP 0 rfl rfl 17 (by decide) (ow (k := 15) rfl) (fun _ h9 => h9) rfl dX7_begin_73 ?_
  refine lv_iload hx hb dX7_begin_76 (lv_at hl 0 rfl) ?_
  refine lv_iconst (v := (-1)) hx hb dX7_begin_78 (by decide) ?_
  refine va_iast hx hb hK hP hD hS 2 1 rfl rfl (show vp_in 2 60 by rw [vp_in_iff]; decide) dX7_begin_79 (fun H locs hP hD hS => ?_)
  have hP : va_P (dC, dI) vwP [(q_60, .inr (7, [.int 0, .ref q_1, .int 0, .int 0, .int 1, .int 0, .int 0, .int 0, .ref q_3, .int 0, .int 0, .int 0, .int 0, .long 0, .int 0, .int (-1), .ref q_62, .ref q_63])), (q_62, .inl (cA_64, 60, .inl f_7)), (q_63, .inl (cA_65, 60, .inl (upd f_6 (2 : Int32).toNatClampNeg (-1)))), (q_3, .inr (0, [.int 0, .int 0, .int 0, .int 0, .ref q_4, .ref q_5, .ref q_6, .ref q_7, .ref q_8, .ref q_9, .ref q_10, .ref q_11, .ref q_12, .ref q_13, .ref q_14, .ref q_15, .ref q_16, .ref q_17, .ref q_18])), (q_4, .inl (cA_19, 301, .inl g0_1)), (q_15, .inl (cA_20, 301, .inl g1_2))] H := hP
  have hD : va_D A [(q_60, .inr (7, [.int 0, .ref q_1, .int 0, .int 0, .int 1, .int 0, .int 0, .int 0, .ref q_3, .int 0, .int 0, .int 0, .int 0, .long 0, .int 0, .int (-1), .ref q_62, .ref q_63])), (q_62, .inl (cA_64, 60, .inl f_7)), (q_63, .inl (cA_65, 60, .inl (upd f_6 (2 : Int32).toNatClampNeg (-1)))), (q_3, .inr (0, [.int 0, .int 0, .int 0, .int 0, .ref q_4, .ref q_5, .ref q_6, .ref q_7, .ref q_8, .ref q_9, .ref q_10, .ref q_11, .ref q_12, .ref q_13, .ref q_14, .ref q_15, .ref q_16, .ref q_17, .ref q_18])), (q_4, .inl (cA_19, 301, .inl g0_1)), (q_15, .inl (cA_20, 301, .inl g1_2))] := hD
  generalize (upd f_6 (2 : Int32).toNatClampNeg (-1)) = f_8 at hP hD
  refine lv_iinc (v := 3) (lv' := [(4, .int 3), (0, .ref q_60), (1, .ref q_1), (2, .int 0), (3, .ref q_3)]) hx hb dX7_begin_80 hl (k := 0) rfl (by decide) (by decide) rfl (fun ls hl => ?_)
  refine lv_goto (tgt := 57) hx hb dX7_begin_83 (by decide) ?_
  refine lv_iload hx hb dX7_begin_57 (lv_at hl 0 rfl) ?_
  refine lv_bipush (v := 60) hx hb dX7_begin_59 (by decide) ?_
  refine lv_icmp_ge (tgt := 86) hx hb dX7_begin_61 (by decide) (fun h9 => absurd h9 (by decide)) (fun _ => ?_)
  refine lv_aload_n hx hb dX7_begin_64 rfl (lv_at hl 1 rfl) ?_
  refine va_get (D := (dC, dI)) (ci := 7) (v := .ref q_62) (C := RX7) (T := TX7) (N := 18) hx hb hts mem_X7_begin_0 hown hK hP 0 rfl rfl 16 (by decide) (ow (k := 14) rfl) (fun _ h9 => h9) rfl dX7_begin_65 ?_
  refine lv_iload hx hb dX7_begin_68 (lv_at hl 0 rfl) ?_
  refine lv_iconst (v := 0) hx hb dX7_begin_70 (by decide) ?_
  refine va_zast hx hb hK hP hD hS 1 0 rfl rfl (show vp_in 3 60 by rw [vp_in_iff]; decide) dX7_begin_71 (fun H locs hP hD hS => ?_)
  have hP : va_P (dC, dI) vwP [(q_60, .inr (7, [.int 0, .ref q_1, .int 0, .int 0, .int 1, .int 0, .int 0, .int 0, .ref q_3, .int 0, .int 0, .int 0, .int 0, .long 0, .int 0, .int (-1), .ref q_62, .ref q_63])), (q_62, .inl (cA_64, 60, .inl (upd f_7 (3 : Int32).toNatClampNeg (vp_nar .boolean 0)))), (q_63, .inl (cA_65, 60, .inl f_8)), (q_3, .inr (0, [.int 0, .int 0, .int 0, .int 0, .ref q_4, .ref q_5, .ref q_6, .ref q_7, .ref q_8, .ref q_9, .ref q_10, .ref q_11, .ref q_12, .ref q_13, .ref q_14, .ref q_15, .ref q_16, .ref q_17, .ref q_18])), (q_4, .inl (cA_19, 301, .inl g0_1)), (q_15, .inl (cA_20, 301, .inl g1_2))] H := hP
  have hD : va_D A [(q_60, .inr (7, [.int 0, .ref q_1, .int 0, .int 0, .int 1, .int 0, .int 0, .int 0, .ref q_3, .int 0, .int 0, .int 0, .int 0, .long 0, .int 0, .int (-1), .ref q_62, .ref q_63])), (q_62, .inl (cA_64, 60, .inl (upd f_7 (3 : Int32).toNatClampNeg (vp_nar .boolean 0)))), (q_63, .inl (cA_65, 60, .inl f_8)), (q_3, .inr (0, [.int 0, .int 0, .int 0, .int 0, .ref q_4, .ref q_5, .ref q_6, .ref q_7, .ref q_8, .ref q_9, .ref q_10, .ref q_11, .ref q_12, .ref q_13, .ref q_14, .ref q_15, .ref q_16, .ref q_17, .ref q_18])), (q_4, .inl (cA_19, 301, .inl g0_1)), (q_15, .inl (cA_20, 301, .inl g1_2))] := hD
  generalize (upd f_7 (3 : Int32).toNatClampNeg (vp_nar .boolean 0)) = f_9 at hP hD
  refine lv_aload_n hx hb dX7_begin_72 rfl (lv_at hl 1 rfl) ?_
  refine va_get (D := (dC, dI)) (ci := 7) (v := .ref q_63) (C := RX7) (T := TX7) (N := 18) hx hb hts mem_X7_begin_0 hown hK hP 0 rfl rfl 17 (by decide) (ow (k := 15) rfl) (fun _ h9 => h9) rfl dX7_begin_73 ?_
  refine lv_iload hx hb dX7_begin_76 (lv_at hl 0 rfl) ?_
  refine lv_iconst (v := (-1)) hx hb dX7_begin_78 (by decide) ?_
  refine va_iast hx hb hK hP hD hS 2 1 rfl rfl (show vp_in 3 60 by rw [vp_in_iff]; decide) dX7_begin_79 (fun H locs hP hD hS => ?_)
  have hP : va_P (dC, dI) vwP [(q_60, .inr (7, [.int 0, .ref q_1, .int 0, .int 0, .int 1, .int 0, .int 0, .int 0, .ref q_3, .int 0, .int 0, .int 0, .int 0, .long 0, .int 0, .int (-1), .ref q_62, .ref q_63])), (q_62, .inl (cA_64, 60, .inl f_9)), (q_63, .inl (cA_65, 60, .inl (upd f_8 (3 : Int32).toNatClampNeg (-1)))), (q_3, .inr (0, [.int 0, .int 0, .int 0, .int 0, .ref q_4, .ref q_5, .ref q_6, .ref q_7, .ref q_8, .ref q_9, .ref q_10, .ref q_11, .ref q_12, .ref q_13, .ref q_14, .ref q_15, .ref q_16, .ref q_17, .ref q_18])), (q_4, .inl (cA_19, 301, .inl g0_1)), (q_15, .inl (cA_20, 301, .inl g1_2))] H := hP
  have hD : va_D A [(q_60, .inr (7, [.int 0, .ref q_1, .int 0, .int 0, .int 1, .int 0, .int 0, .int 0, .ref q_3, .int 0, .int 0, .int 0, .int 0, .long 0, .int 0, .int (-1), .ref q_62, .ref q_63])), (q_62, .inl (cA_64, 60, .inl f_9)), (q_63, .inl (cA_65, 60, .inl (upd f_8 (3 : Int32).toNatClampNeg (-1)))), (q_3, .inr (0, [.int 0, .int 0, .int 0, .int 0, .ref q_4, .ref q_5, .ref q_6, .ref q_7, .ref q_8, .ref q_9, .ref q_10, .ref q_11, .ref q_12, .ref q_13, .ref q_14, .ref q_15, .ref q_16, .ref q_17, .ref q_18])), (q_4, .inl (cA_19, 301, .inl g0_1)), (q_15, .inl (cA_20, 301, .inl g1_2))] := hD
  generalize (upd f_8 (3 : Int32).toNatClampNeg (-1)) = f_10 at hP hD
  refine lv_iinc (v := 4) (lv' := [(4, .int 4), (0, .ref q_60), (1, .ref q_1), (2, .int 0), (3, .ref q_3)]) hx hb dX7_begin_80 hl (k := 0) rfl (by decide) (by decide) rfl (fun ls hl => ?_)
  refine lv_goto (tgt := 57) hx hb dX7_begin_83 (by decide) ?_
  refine lv_iload hx hb dX7_begin_57 (lv_at hl 0 rfl) ?_
  refine lv_bipush (v := 60) hx hb dX7_begin_59 (by decide) ?_
  refine lv_icmp_ge (tgt := 86) hx hb dX7_begin_61 (by decide) (fun h9 => absurd h9 (by decide)) (fun _ => ?_)
  refine lv_aload_n hx hb dX7_begin_64 rfl (lv_at hl 1 rfl) ?_
  refine va_get (D := (dC, dI)) (ci := 7) (v := .ref q_62) (C := RX7) (T := TX7) (N := 18) hx hb hts mem_X7_begin_0 hown hK hP 0 rfl rfl 16 (by decide) (ow (k := 14) rfl) (fun _ h9 => h9) rfl dX7_begin_65 ?_
  refine lv_iload hx hb dX7_begin_68 (lv_at hl 0 rfl) ?_
  refine lv_iconst (v := 0) hx hb dX7_begin_70 (by decide) ?_
  refine va_zast hx hb hK hP hD hS 1 0 rfl rfl (show vp_in 4 60 by rw [vp_in_iff]; decide) dX7_begin_71 (fun H locs hP hD hS => ?_)
  have hP : va_P (dC, dI) vwP [(q_60, .inr (7, [.int 0, .ref q_1, .int 0, .int 0, .int 1, .int 0, .int 0, .int 0, .ref q_3, .int 0, .int 0, .int 0, .int 0, .long 0, .int 0, .int (-1), .ref q_62, .ref q_63])), (q_62, .inl (cA_64, 60, .inl (upd f_9 (4 : Int32).toNatClampNeg (vp_nar .boolean 0)))), (q_63, .inl (cA_65, 60, .inl f_10)), (q_3, .inr (0, [.int 0, .int 0, .int 0, .int 0, .ref q_4, .ref q_5, .ref q_6, .ref q_7, .ref q_8, .ref q_9, .ref q_10, .ref q_11, .ref q_12, .ref q_13, .ref q_14, .ref q_15, .ref q_16, .ref q_17, .ref q_18])), (q_4, .inl (cA_19, 301, .inl g0_1)), (q_15, .inl (cA_20, 301, .inl g1_2))] H := hP
  have hD : va_D A [(q_60, .inr (7, [.int 0, .ref q_1, .int 0, .int 0, .int 1, .int 0, .int 0, .int 0, .ref q_3, .int 0, .int 0, .int 0, .int 0, .long 0, .int 0, .int (-1), .ref q_62, .ref q_63])), (q_62, .inl (cA_64, 60, .inl (upd f_9 (4 : Int32).toNatClampNeg (vp_nar .boolean 0)))), (q_63, .inl (cA_65, 60, .inl f_10)), (q_3, .inr (0, [.int 0, .int 0, .int 0, .int 0, .ref q_4, .ref q_5, .ref q_6, .ref q_7, .ref q_8, .ref q_9, .ref q_10, .ref q_11, .ref q_12, .ref q_13, .ref q_14, .ref q_15, .ref q_16, .ref q_17, .ref q_18])), (q_4, .inl (cA_19, 301, .inl g0_1)), (q_15, .inl (cA_20, 301, .inl g1_2))] := hD
  generalize (upd f_9 (4 : Int32).toNatClampNeg (vp_nar .boolean 0)) = f_11 at hP hD
  refine lv_aload_n hx hb dX7_begin_72 rfl (lv_at hl 1 rfl) ?_
  refine va_get (D := (dC, dI)) (ci := 7) (v := .ref q_63) (C := RX7) (T := TX7) (N := 18) hx hb hts mem_X7_begin_0 hown hK hP 0 rfl rfl 17 (by decide) (ow (k := 15) rfl) (fun _ h9 => h9) rfl dX7_begin_73 ?_
  refine lv_iload hx hb dX7_begin_76 (lv_at hl 0 rfl) ?_
  refine lv_iconst (v := (-1)) hx hb dX7_begin_78 (by decide) ?_
  refine va_iast hx hb hK hP hD hS 2 1 rfl rfl (show vp_in 4 60 by rw [vp_in_iff]; decide) dX7_begin_79 (fun H locs hP hD hS => ?_)
  have hP : va_P (dC, dI) vwP [(q_60, .inr (7, [.int 0, .ref q_1, .int 0, .int 0, .int 1, .int 0, .int 0, .int 0, .ref q_3, .int 0, .int 0, .int 0, .int 0, .long 0, .int 0, .int (-1), .ref q_62, .ref q_63])), (q_62, .inl (cA_64, 60, .inl f_11)), (q_63, .inl (cA_65, 60, .inl (upd f_10 (4 : Int32).toNatClampNeg (-1)))), (q_3, .inr (0, [.int 0, .int 0, .int 0, .int 0, .ref q_4, .ref q_5, .ref q_6, .ref q_7, .ref q_8, .ref q_9, .ref q_10, .ref q_11, .ref q_12, .ref q_13, .ref q_14, .ref q_15, .ref q_16, .ref q_17, .ref q_18])), (q_4, .inl (cA_19, 301, .inl g0_1)), (q_15, .inl (cA_20, 301, .inl g1_2))] H := hP
  have hD : va_D A [(q_60, .inr (7, [.int 0, .ref q_1, .int 0, .int 0, .int 1, .int 0, .int 0, .int 0, .ref q_3, .int 0, .int 0, .int 0, .int 0, .long 0, .int 0, .int (-1), .ref q_62, .ref q_63])), (q_62, .inl (cA_64, 60, .inl f_11)), (q_63, .inl (cA_65, 60, .inl (upd f_10 (4 : Int32).toNatClampNeg (-1)))), (q_3, .inr (0, [.int 0, .int 0, .int 0, .int 0, .ref q_4, .ref q_5, .ref q_6, .ref q_7, .ref q_8, .ref q_9, .ref q_10, .ref q_11, .ref q_12, .ref q_13, .ref q_14, .ref q_15, .ref q_16, .ref q_17, .ref q_18])), (q_4, .inl (cA_19, 301, .inl g0_1)), (q_15, .inl (cA_20, 301, .inl g1_2))] := hD
  generalize (upd f_10 (4 : Int32).toNatClampNeg (-1)) = f_12 at hP hD
  refine lv_iinc (v := 5) (lv' := [(4, .int 5), (0, .ref q_60), (1, .ref q_1), (2, .int 0), (3, .ref q_3)]) hx hb dX7_begin_80 hl (k := 0) rfl (by decide) (by decide) rfl (fun ls hl => ?_)
  refine lv_goto (tgt := 57) hx hb dX7_begin_83 (by decide) ?_
  refine lv_iload hx hb dX7_begin_57 (lv_at hl 0 rfl) ?_
  refine lv_bipush (v := 60) hx hb dX7_begin_59 (by decide) ?_
  refine lv_icmp_ge (tgt := 86) hx hb dX7_begin_61 (by decide) (fun h9 => absurd h9 (by decide)) (fun _ => ?_)
  refine lv_aload_n hx hb dX7_begin_64 rfl (lv_at hl 1 rfl) ?_
  refine va_get (D := (dC, dI)) (ci := 7) (v := .ref q_62) (C := RX7) (T := TX7) (N := 18) hx hb hts mem_X7_begin_0 hown hK hP 0 rfl rfl 16 (by decide) (ow (k := 14) rfl) (fun _ h9 => h9) rfl dX7_begin_65 ?_
  refine lv_iload hx hb dX7_begin_68 (lv_at hl 0 rfl) ?_
  refine lv_iconst (v := 0) hx hb dX7_begin_70 (by decide) ?_
  refine va_zast hx hb hK hP hD hS 1 0 rfl rfl (show vp_in 5 60 by rw [vp_in_iff]; decide) dX7_begin_71 (fun H locs hP hD hS => ?_)
  have hP : va_P (dC, dI) vwP [(q_60, .inr (7, [.int 0, .ref q_1, .int 0, .int 0, .int 1, .int 0, .int 0, .int 0, .ref q_3, .int 0, .int 0, .int 0, .int 0, .long 0, .int 0, .int (-1), .ref q_62, .ref q_63])), (q_62, .inl (cA_64, 60, .inl (upd f_11 (5 : Int32).toNatClampNeg (vp_nar .boolean 0)))), (q_63, .inl (cA_65, 60, .inl f_12)), (q_3, .inr (0, [.int 0, .int 0, .int 0, .int 0, .ref q_4, .ref q_5, .ref q_6, .ref q_7, .ref q_8, .ref q_9, .ref q_10, .ref q_11, .ref q_12, .ref q_13, .ref q_14, .ref q_15, .ref q_16, .ref q_17, .ref q_18])), (q_4, .inl (cA_19, 301, .inl g0_1)), (q_15, .inl (cA_20, 301, .inl g1_2))] H := hP
  have hD : va_D A [(q_60, .inr (7, [.int 0, .ref q_1, .int 0, .int 0, .int 1, .int 0, .int 0, .int 0, .ref q_3, .int 0, .int 0, .int 0, .int 0, .long 0, .int 0, .int (-1), .ref q_62, .ref q_63])), (q_62, .inl (cA_64, 60, .inl (upd f_11 (5 : Int32).toNatClampNeg (vp_nar .boolean 0)))), (q_63, .inl (cA_65, 60, .inl f_12)), (q_3, .inr (0, [.int 0, .int 0, .int 0, .int 0, .ref q_4, .ref q_5, .ref q_6, .ref q_7, .ref q_8, .ref q_9, .ref q_10, .ref q_11, .ref q_12, .ref q_13, .ref q_14, .ref q_15, .ref q_16, .ref q_17, .ref q_18])), (q_4, .inl (cA_19, 301, .inl g0_1)), (q_15, .inl (cA_20, 301, .inl g1_2))] := hD
  generalize (upd f_11 (5 : Int32).toNatClampNeg (vp_nar .boolean 0)) = f_13 at hP hD
  refine lv_aload_n hx hb dX7_begin_72 rfl (lv_at hl 1 rfl) ?_
  refine va_get (D := (dC, dI)) (ci := 7) (v := .ref q_63) (C := RX7) (T := TX7) (N := 18) hx hb hts mem_X7_begin_0 hown hK hP 0 rfl rfl 17 (by decide) (ow (k := 15) rfl) (fun _ h9 => h9) rfl dX7_begin_73 ?_
  refine lv_iload hx hb dX7_begin_76 (lv_at hl 0 rfl) ?_
  refine lv_iconst (v := (-1)) hx hb dX7_begin_78 (by decide) ?_
  refine va_iast hx hb hK hP hD hS 2 1 rfl rfl (show vp_in 5 60 by rw [vp_in_iff]; decide) dX7_begin_79 (fun H locs hP hD hS => ?_)
  have hP : va_P (dC, dI) vwP [(q_60, .inr (7, [.int 0, .ref q_1, .int 0, .int 0, .int 1, .int 0, .int 0, .int 0, .ref q_3, .int 0, .int 0, .int 0, .int 0, .long 0, .int 0, .int (-1), .ref q_62, .ref q_63])), (q_62, .inl (cA_64, 60, .inl f_13)), (q_63, .inl (cA_65, 60, .inl (upd f_12 (5 : Int32).toNatClampNeg (-1)))), (q_3, .inr (0, [.int 0, .int 0, .int 0, .int 0, .ref q_4, .ref q_5, .ref q_6, .ref q_7, .ref q_8, .ref q_9, .ref q_10, .ref q_11, .ref q_12, .ref q_13, .ref q_14, .ref q_15, .ref q_16, .ref q_17, .ref q_18])), (q_4, .inl (cA_19, 301, .inl g0_1)), (q_15, .inl (cA_20, 301, .inl g1_2))] H := hP
  have hD : va_D A [(q_60, .inr (7, [.int 0, .ref q_1, .int 0, .int 0, .int 1, .int 0, .int 0, .int 0, .ref q_3, .int 0, .int 0, .int 0, .int 0, .long 0, .int 0, .int (-1), .ref q_62, .ref q_63])), (q_62, .inl (cA_64, 60, .inl f_13)), (q_63, .inl (cA_65, 60, .inl (upd f_12 (5 : Int32).toNatClampNeg (-1)))), (q_3, .inr (0, [.int 0, .int 0, .int 0, .int 0, .ref q_4, .ref q_5, .ref q_6, .ref q_7, .ref q_8, .ref q_9, .ref q_10, .ref q_11, .ref q_12, .ref q_13, .ref q_14, .ref q_15, .ref q_16, .ref q_17, .ref q_18])), (q_4, .inl (cA_19, 301, .inl g0_1)), (q_15, .inl (cA_20, 301, .inl g1_2))] := hD
  generalize (upd f_12 (5 : Int32).toNatClampNeg (-1)) = f_14 at hP hD
  refine lv_iinc (v := 6) (lv' := [(4, .int 6), (0, .ref q_60), (1, .ref q_1), (2, .int 0), (3, .ref q_3)]) hx hb dX7_begin_80 hl (k := 0) rfl (by decide) (by decide) rfl (fun ls hl => ?_)
  refine lv_goto (tgt := 57) hx hb dX7_begin_83 (by decide) ?_
  refine lv_iload hx hb dX7_begin_57 (lv_at hl 0 rfl) ?_
  refine lv_bipush (v := 60) hx hb dX7_begin_59 (by decide) ?_
  refine lv_icmp_ge (tgt := 86) hx hb dX7_begin_61 (by decide) (fun h9 => absurd h9 (by decide)) (fun _ => ?_)
  refine lv_aload_n hx hb dX7_begin_64 rfl (lv_at hl 1 rfl) ?_
  refine va_get (D := (dC, dI)) (ci := 7) (v := .ref q_62) (C := RX7) (T := TX7) (N := 18) hx hb hts mem_X7_begin_0 hown hK hP 0 rfl rfl 16 (by decide) (ow (k := 14) rfl) (fun _ h9 => h9) rfl dX7_begin_65 ?_
  refine lv_iload hx hb dX7_begin_68 (lv_at hl 0 rfl) ?_
  refine lv_iconst (v := 0) hx hb dX7_begin_70 (by decide) ?_
  refine va_zast hx hb hK hP hD hS 1 0 rfl rfl (show vp_in 6 60 by rw [vp_in_iff]; decide) dX7_begin_71 (fun H locs hP hD hS => ?_)
  have hP : va_P (dC, dI) vwP [(q_60, .inr (7, [.int 0, .ref q_1, .int 0, .int 0, .int 1, .int 0, .int 0, .int 0, .ref q_3, .int 0, .int 0, .int 0, .int 0, .long 0, .int 0, .int (-1), .ref q_62, .ref q_63])), (q_62, .inl (cA_64, 60, .inl (upd f_13 (6 : Int32).toNatClampNeg (vp_nar .boolean 0)))), (q_63, .inl (cA_65, 60, .inl f_14)), (q_3, .inr (0, [.int 0, .int 0, .int 0, .int 0, .ref q_4, .ref q_5, .ref q_6, .ref q_7, .ref q_8, .ref q_9, .ref q_10, .ref q_11, .ref q_12, .ref q_13, .ref q_14, .ref q_15, .ref q_16, .ref q_17, .ref q_18])), (q_4, .inl (cA_19, 301, .inl g0_1)), (q_15, .inl (cA_20, 301, .inl g1_2))] H := hP
  have hD : va_D A [(q_60, .inr (7, [.int 0, .ref q_1, .int 0, .int 0, .int 1, .int 0, .int 0, .int 0, .ref q_3, .int 0, .int 0, .int 0, .int 0, .long 0, .int 0, .int (-1), .ref q_62, .ref q_63])), (q_62, .inl (cA_64, 60, .inl (upd f_13 (6 : Int32).toNatClampNeg (vp_nar .boolean 0)))), (q_63, .inl (cA_65, 60, .inl f_14)), (q_3, .inr (0, [.int 0, .int 0, .int 0, .int 0, .ref q_4, .ref q_5, .ref q_6, .ref q_7, .ref q_8, .ref q_9, .ref q_10, .ref q_11, .ref q_12, .ref q_13, .ref q_14, .ref q_15, .ref q_16, .ref q_17, .ref q_18])), (q_4, .inl (cA_19, 301, .inl g0_1)), (q_15, .inl (cA_20, 301, .inl g1_2))] := hD
  generalize (upd f_13 (6 : Int32).toNatClampNeg (vp_nar .boolean 0)) = f_15 at hP hD
  refine lv_aload_n hx hb dX7_begin_72 rfl (lv_at hl 1 rfl) ?_
  refine va_get (D := (dC, dI)) (ci := 7) (v := .ref q_63) (C := RX7) (T := TX7) (N := 18) hx hb hts mem_X7_begin_0 hown hK hP 0 rfl rfl 17 (by decide) (ow (k := 15) rfl) (fun _ h9 => h9) rfl dX7_begin_73 ?_
  refine lv_iload hx hb dX7_begin_76 (lv_at hl 0 rfl) ?_
  refine lv_iconst (v := (-1)) hx hb dX7_begin_78 (by decide) ?_
  refine va_iast hx hb hK hP hD hS 2 1 rfl rfl (show vp_in 6 60 by rw [vp_in_iff]; decide) dX7_begin_79 (fun H locs hP hD hS => ?_)
  have hP : va_P (dC, dI) vwP [(q_60, .inr (7, [.int 0, .ref q_1, .int 0, .int 0, .int 1, .int 0, .int 0, .int 0, .ref q_3, .int 0, .int 0, .int 0, .int 0, .long 0, .int 0, .int (-1), .ref q_62, .ref q_63])), (q_62, .inl (cA_64, 60, .inl f_15)), (q_63, .inl (cA_65, 60, .inl (upd f_14 (6 : Int32).toNatClampNeg (-1)))), (q_3, .inr (0, [.int 0, .int 0, .int 0, .int 0, .ref q_4, .ref q_5, .ref q_6, .ref q_7, .ref q_8, .ref q_9, .ref q_10, .ref q_11, .ref q_12, .ref q_13, .ref q_14, .ref q_15, .ref q_16, .ref q_17, .ref q_18])), (q_4, .inl (cA_19, 301, .inl g0_1)), (q_15, .inl (cA_20, 301, .inl g1_2))] H := hP
  have hD : va_D A [(q_60, .inr (7, [.int 0, .ref q_1, .int 0, .int 0, .int 1, .int 0, .int 0, .int 0, .ref q_3, .int 0, .int 0, .int 0, .int 0, .long 0, .int 0, .int (-1), .ref q_62, .ref q_63])), (q_62, .inl (cA_64, 60, .inl f_15)), (q_63, .inl (cA_65, 60, .inl (upd f_14 (6 : Int32).toNatClampNeg (-1)))), (q_3, .inr (0, [.int 0, .int 0, .int 0, .int 0, .ref q_4, .ref q_5, .ref q_6, .ref q_7, .ref q_8, .ref q_9, .ref q_10, .ref q_11, .ref q_12, .ref q_13, .ref q_14, .ref q_15, .ref q_16, .ref q_17, .ref q_18])), (q_4, .inl (cA_19, 301, .inl g0_1)), (q_15, .inl (cA_20, 301, .inl g1_2))] := hD
  generalize (upd f_14 (6 : Int32).toNatClampNeg (-1)) = f_16 at hP hD
  refine lv_iinc (v := 7) (lv' := [(4, .int 7), (0, .ref q_60), (1, .ref q_1), (2, .int 0), (3, .ref q_3)]) hx hb dX7_begin_80 hl (k := 0) rfl (by decide) (by decide) rfl (fun ls hl => ?_)
  refine lv_goto (tgt := 57) hx hb dX7_begin_83 (by decide) ?_
  refine lv_iload hx hb dX7_begin_57 (lv_at hl 0 rfl) ?_
  refine lv_bipush (v := 60) hx hb dX7_begin_59 (by decide) ?_
  refine lv_icmp_ge (tgt := 86) hx hb dX7_begin_61 (by decide) (fun h9 => absurd h9 (by decide)) (fun _ => ?_)
  refine lv_aload_n hx hb dX7_begin_64 rfl (lv_at hl 1 rfl) ?_
  refine va_get (D := (dC, dI)) (ci := 7) (v := .ref q_62) (C := RX7) (T := TX7) (N := 18) hx hb hts mem_X7_begin_0 hown hK hP 0 rfl rfl 16 (by decide) (ow (k := 14) rfl) (fun _ h9 => h9) rfl dX7_begin_65 ?_
  refine lv_iload hx hb dX7_begin_68 (lv_at hl 0 rfl) ?_
  refine lv_iconst (v := 0) hx hb dX7_begin_70 (by decide) ?_
  refine va_zast hx hb hK hP hD hS 1 0 rfl rfl (show vp_in 7 60 by rw [vp_in_iff]; decide) dX7_begin_71 (fun H locs hP hD hS => ?_)
  have hP : va_P (dC, dI) vwP [(q_60, .inr (7, [.int 0, .ref q_1, .int 0, .int 0, .int 1, .int 0, .int 0, .int 0, .ref q_3, .int 0, .int 0, .int 0, .int 0, .long 0, .int 0, .int (-1), .ref q_62, .ref q_63])), (q_62, .inl (cA_64, 60, .inl (upd f_15 (7 : Int32).toNatClampNeg (vp_nar .boolean 0)))), (q_63, .inl (cA_65, 60, .inl f_16)), (q_3, .inr (0, [.int 0, .int 0, .int 0, .int 0, .ref q_4, .ref q_5, .ref q_6, .ref q_7, .ref q_8, .ref q_9, .ref q_10, .ref q_11, .ref q_12, .ref q_13, .ref q_14, .ref q_15, .ref q_16, .ref q_17, .ref q_18])), (q_4, .inl (cA_19, 301, .inl g0_1)), (q_15, .inl (cA_20, 301, .inl g1_2))] H := hP
  have hD : va_D A [(q_60, .inr (7, [.int 0, .ref q_1, .int 0, .int 0, .int 1, .int 0, .int 0, .int 0, .ref q_3, .int 0, .int 0, .int 0, .int 0, .long 0, .int 0, .int (-1), .ref q_62, .ref q_63])), (q_62, .inl (cA_64, 60, .inl (upd f_15 (7 : Int32).toNatClampNeg (vp_nar .boolean 0)))), (q_63, .inl (cA_65, 60, .inl f_16)), (q_3, .inr (0, [.int 0, .int 0, .int 0, .int 0, .ref q_4, .ref q_5, .ref q_6, .ref q_7, .ref q_8, .ref q_9, .ref q_10, .ref q_11, .ref q_12, .ref q_13, .ref q_14, .ref q_15, .ref q_16, .ref q_17, .ref q_18])), (q_4, .inl (cA_19, 301, .inl g0_1)), (q_15, .inl (cA_20, 301, .inl g1_2))] := hD
  generalize (upd f_15 (7 : Int32).toNatClampNeg (vp_nar .boolean 0)) = f_17 at hP hD
  refine lv_aload_n hx hb dX7_begin_72 rfl (lv_at hl 1 rfl) ?_
  refine va_get (D := (dC, dI)) (ci := 7) (v := .ref q_63) (C := RX7) (T := TX7) (N := 18) hx hb hts mem_X7_begin_0 hown hK hP 0 rfl rfl 17 (by decide) (ow (k := 15) rfl) (fun _ h9 => h9) rfl dX7_begin_73 ?_
  refine lv_iload hx hb dX7_begin_76 (lv_at hl 0 rfl) ?_
  refine lv_iconst (v := (-1)) hx hb dX7_begin_78 (by decide) ?_
  refine va_iast hx hb hK hP hD hS 2 1 rfl rfl (show vp_in 7 60 by rw [vp_in_iff]; decide) dX7_begin_79 (fun H locs hP hD hS => ?_)
  have hP : va_P (dC, dI) vwP [(q_60, .inr (7, [.int 0, .ref q_1, .int 0, .int 0, .int 1, .int 0, .int 0, .int 0, .ref q_3, .int 0, .int 0, .int 0, .int 0, .long 0, .int 0, .int (-1), .ref q_62, .ref q_63])), (q_62, .inl (cA_64, 60, .inl f_17)), (q_63, .inl (cA_65, 60, .inl (upd f_16 (7 : Int32).toNatClampNeg (-1)))), (q_3, .inr (0, [.int 0, .int 0, .int 0, .int 0, .ref q_4, .ref q_5, .ref q_6, .ref q_7, .ref q_8, .ref q_9, .ref q_10, .ref q_11, .ref q_12, .ref q_13, .ref q_14, .ref q_15, .ref q_16, .ref q_17, .ref q_18])), (q_4, .inl (cA_19, 301, .inl g0_1)), (q_15, .inl (cA_20, 301, .inl g1_2))] H := hP
  have hD : va_D A [(q_60, .inr (7, [.int 0, .ref q_1, .int 0, .int 0, .int 1, .int 0, .int 0, .int 0, .ref q_3, .int 0, .int 0, .int 0, .int 0, .long 0, .int 0, .int (-1), .ref q_62, .ref q_63])), (q_62, .inl (cA_64, 60, .inl f_17)), (q_63, .inl (cA_65, 60, .inl (upd f_16 (7 : Int32).toNatClampNeg (-1)))), (q_3, .inr (0, [.int 0, .int 0, .int 0, .int 0, .ref q_4, .ref q_5, .ref q_6, .ref q_7, .ref q_8, .ref q_9, .ref q_10, .ref q_11, .ref q_12, .ref q_13, .ref q_14, .ref q_15, .ref q_16, .ref q_17, .ref q_18])), (q_4, .inl (cA_19, 301, .inl g0_1)), (q_15, .inl (cA_20, 301, .inl g1_2))] := hD
  generalize (upd f_16 (7 : Int32).toNatClampNeg (-1)) = f_18 at hP hD
  refine lv_iinc (v := 8) (lv' := [(4, .int 8), (0, .ref q_60), (1, .ref q_1), (2, .int 0), (3, .ref q_3)]) hx hb dX7_begin_80 hl (k := 0) rfl (by decide) (by decide) rfl (fun ls hl => ?_)
  refine lv_goto (tgt := 57) hx hb dX7_begin_83 (by decide) ?_
  refine lv_iload hx hb dX7_begin_57 (lv_at hl 0 rfl) ?_
  refine lv_bipush (v := 60) hx hb dX7_begin_59 (by decide) ?_
  refine lv_icmp_ge (tgt := 86) hx hb dX7_begin_61 (by decide) (fun h9 => absurd h9 (by decide)) (fun _ => ?_)
  refine lv_aload_n hx hb dX7_begin_64 rfl (lv_at hl 1 rfl) ?_
  refine va_get (D := (dC, dI)) (ci := 7) (v := .ref q_62) (C := RX7) (T := TX7) (N := 18) hx hb hts mem_X7_begin_0 hown hK hP 0 rfl rfl 16 (by decide) (ow (k := 14) rfl) (fun _ h9 => h9) rfl dX7_begin_65 ?_
  refine lv_iload hx hb dX7_begin_68 (lv_at hl 0 rfl) ?_
  refine lv_iconst (v := 0) hx hb dX7_begin_70 (by decide) ?_
  refine va_zast hx hb hK hP hD hS 1 0 rfl rfl (show vp_in 8 60 by rw [vp_in_iff]; decide) dX7_begin_71 (fun H locs hP hD hS => ?_)
  have hP : va_P (dC, dI) vwP [(q_60, .inr (7, [.int 0, .ref q_1, .int 0, .int 0, .int 1, .int 0, .int 0, .int 0, .ref q_3, .int 0, .int 0, .int 0, .int 0, .long 0, .int 0, .int (-1), .ref q_62, .ref q_63])), (q_62, .inl (cA_64, 60, .inl (upd f_17 (8 : Int32).toNatClampNeg (vp_nar .boolean 0)))), (q_63, .inl (cA_65, 60, .inl f_18)), (q_3, .inr (0, [.int 0, .int 0, .int 0, .int 0, .ref q_4, .ref q_5, .ref q_6, .ref q_7, .ref q_8, .ref q_9, .ref q_10, .ref q_11, .ref q_12, .ref q_13, .ref q_14, .ref q_15, .ref q_16, .ref q_17, .ref q_18])), (q_4, .inl (cA_19, 301, .inl g0_1)), (q_15, .inl (cA_20, 301, .inl g1_2))] H := hP
  have hD : va_D A [(q_60, .inr (7, [.int 0, .ref q_1, .int 0, .int 0, .int 1, .int 0, .int 0, .int 0, .ref q_3, .int 0, .int 0, .int 0, .int 0, .long 0, .int 0, .int (-1), .ref q_62, .ref q_63])), (q_62, .inl (cA_64, 60, .inl (upd f_17 (8 : Int32).toNatClampNeg (vp_nar .boolean 0)))), (q_63, .inl (cA_65, 60, .inl f_18)), (q_3, .inr (0, [.int 0, .int 0, .int 0, .int 0, .ref q_4, .ref q_5, .ref q_6, .ref q_7, .ref q_8, .ref q_9, .ref q_10, .ref q_11, .ref q_12, .ref q_13, .ref q_14, .ref q_15, .ref q_16, .ref q_17, .ref q_18])), (q_4, .inl (cA_19, 301, .inl g0_1)), (q_15, .inl (cA_20, 301, .inl g1_2))] := hD
  generalize (upd f_17 (8 : Int32).toNatClampNeg (vp_nar .boolean 0)) = f_19 at hP hD
  refine lv_aload_n hx hb dX7_begin_72 rfl (lv_at hl 1 rfl) ?_
  refine va_get (D := (dC, dI)) (ci := 7) (v := .ref q_63) (C := RX7) (T := TX7) (N := 18) hx hb hts mem_X7_begin_0 hown hK hP 0 rfl rfl 17 (by decide) (ow (k := 15) rfl) (fun _ h9 => h9) rfl dX7_begin_73 ?_
  refine lv_iload hx hb dX7_begin_76 (lv_at hl 0 rfl) ?_
  refine lv_iconst (v := (-1)) hx hb dX7_begin_78 (by decide) ?_
  refine va_iast hx hb hK hP hD hS 2 1 rfl rfl (show vp_in 8 60 by rw [vp_in_iff]; decide) dX7_begin_79 (fun H locs hP hD hS => ?_)
  have hP : va_P (dC, dI) vwP [(q_60, .inr (7, [.int 0, .ref q_1, .int 0, .int 0, .int 1, .int 0, .int 0, .int 0, .ref q_3, .int 0, .int 0, .int 0, .int 0, .long 0, .int 0, .int (-1), .ref q_62, .ref q_63])), (q_62, .inl (cA_64, 60, .inl f_19)), (q_63, .inl (cA_65, 60, .inl (upd f_18 (8 : Int32).toNatClampNeg (-1)))), (q_3, .inr (0, [.int 0, .int 0, .int 0, .int 0, .ref q_4, .ref q_5, .ref q_6, .ref q_7, .ref q_8, .ref q_9, .ref q_10, .ref q_11, .ref q_12, .ref q_13, .ref q_14, .ref q_15, .ref q_16, .ref q_17, .ref q_18])), (q_4, .inl (cA_19, 301, .inl g0_1)), (q_15, .inl (cA_20, 301, .inl g1_2))] H := hP
  have hD : va_D A [(q_60, .inr (7, [.int 0, .ref q_1, .int 0, .int 0, .int 1, .int 0, .int 0, .int 0, .ref q_3, .int 0, .int 0, .int 0, .int 0, .long 0, .int 0, .int (-1), .ref q_62, .ref q_63])), (q_62, .inl (cA_64, 60, .inl f_19)), (q_63, .inl (cA_65, 60, .inl (upd f_18 (8 : Int32).toNatClampNeg (-1)))), (q_3, .inr (0, [.int 0, .int 0, .int 0, .int 0, .ref q_4, .ref q_5, .ref q_6, .ref q_7, .ref q_8, .ref q_9, .ref q_10, .ref q_11, .ref q_12, .ref q_13, .ref q_14, .ref q_15, .ref q_16, .ref q_17, .ref q_18])), (q_4, .inl (cA_19, 301, .inl g0_1)), (q_15, .inl (cA_20, 301, .inl g1_2))] := hD
  generalize (upd f_18 (8 : Int32).toNatClampNeg (-1)) = f_20 at hP hD
  refine lv_iinc (v := 9) (lv' := [(4, .int 9), (0, .ref q_60), (1, .ref q_1), (2, .int 0), (3, .ref q_3)]) hx hb dX7_begin_80 hl (k := 0) rfl (by decide) (by decide) rfl (fun ls hl => ?_)
  refine lv_goto (tgt := 57) hx hb dX7_begin_83 (by decide) ?_
  refine lv_iload hx hb dX7_begin_57 (lv_at hl 0 rfl) ?_
  refine lv_bipush (v := 60) hx hb dX7_begin_59 (by decide) ?_
  refine lv_icmp_ge (tgt := 86) hx hb dX7_begin_61 (by decide) (fun h9 => absurd h9 (by decide)) (fun _ => ?_)
  refine lv_aload_n hx hb dX7_begin_64 rfl (lv_at hl 1 rfl) ?_
  refine va_get (D := (dC, dI)) (ci := 7) (v := .ref q_62) (C := RX7) (T := TX7) (N := 18) hx hb hts mem_X7_begin_0 hown hK hP 0 rfl rfl 16 (by decide) (ow (k := 14) rfl) (fun _ h9 => h9) rfl dX7_begin_65 ?_
  refine lv_iload hx hb dX7_begin_68 (lv_at hl 0 rfl) ?_
  refine lv_iconst (v := 0) hx hb dX7_begin_70 (by decide) ?_
  refine va_zast hx hb hK hP hD hS 1 0 rfl rfl (show vp_in 9 60 by rw [vp_in_iff]; decide) dX7_begin_71 (fun H locs hP hD hS => ?_)
  have hP : va_P (dC, dI) vwP [(q_60, .inr (7, [.int 0, .ref q_1, .int 0, .int 0, .int 1, .int 0, .int 0, .int 0, .ref q_3, .int 0, .int 0, .int 0, .int 0, .long 0, .int 0, .int (-1), .ref q_62, .ref q_63])), (q_62, .inl (cA_64, 60, .inl (upd f_19 (9 : Int32).toNatClampNeg (vp_nar .boolean 0)))), (q_63, .inl (cA_65, 60, .inl f_20)), (q_3, .inr (0, [.int 0, .int 0, .int 0, .int 0, .ref q_4, .ref q_5, .ref q_6, .ref q_7, .ref q_8, .ref q_9, .ref q_10, .ref q_11, .ref q_12, .ref q_13, .ref q_14, .ref q_15, .ref q_16, .ref q_17, .ref q_18])), (q_4, .inl (cA_19, 301, .inl g0_1)), (q_15, .inl (cA_20, 301, .inl g1_2))] H := hP
  have hD : va_D A [(q_60, .inr (7, [.int 0, .ref q_1, .int 0, .int 0, .int 1, .int 0, .int 0, .int 0, .ref q_3, .int 0, .int 0, .int 0, .int 0, .long 0, .int 0, .int (-1), .ref q_62, .ref q_63])), (q_62, .inl (cA_64, 60, .inl (upd f_19 (9 : Int32).toNatClampNeg (vp_nar .boolean 0)))), (q_63, .inl (cA_65, 60, .inl f_20)), (q_3, .inr (0, [.int 0, .int 0, .int 0, .int 0, .ref q_4, .ref q_5, .ref q_6, .ref q_7, .ref q_8, .ref q_9, .ref q_10, .ref q_11, .ref q_12, .ref q_13, .ref q_14, .ref q_15, .ref q_16, .ref q_17, .ref q_18])), (q_4, .inl (cA_19, 301, .inl g0_1)), (q_15, .inl (cA_20, 301, .inl g1_2))] := hD
  generalize (upd f_19 (9 : Int32).toNatClampNeg (vp_nar .boolean 0)) = f_21 at hP hD
  refine lv_aload_n hx hb dX7_begin_72 rfl (lv_at hl 1 rfl) ?_
  refine va_get (D := (dC, dI)) (ci := 7) (v := .ref q_63) (C := RX7) (T := TX7) (N := 18) hx hb hts mem_X7_begin_0 hown hK hP 0 rfl rfl 17 (by decide) (ow (k := 15) rfl) (fun _ h9 => h9) rfl dX7_begin_73 ?_
  refine lv_iload hx hb dX7_begin_76 (lv_at hl 0 rfl) ?_
  refine lv_iconst (v := (-1)) hx hb dX7_begin_78 (by decide) ?_
  refine va_iast hx hb hK hP hD hS 2 1 rfl rfl (show vp_in 9 60 by rw [vp_in_iff]; decide) dX7_begin_79 (fun H locs hP hD hS => ?_)
  have hP : va_P (dC, dI) vwP [(q_60, .inr (7, [.int 0, .ref q_1, .int 0, .int 0, .int 1, .int 0, .int 0, .int 0, .ref q_3, .int 0, .int 0, .int 0, .int 0, .long 0, .int 0, .int (-1), .ref q_62, .ref q_63])), (q_62, .inl (cA_64, 60, .inl f_21)), (q_63, .inl (cA_65, 60, .inl (upd f_20 (9 : Int32).toNatClampNeg (-1)))), (q_3, .inr (0, [.int 0, .int 0, .int 0, .int 0, .ref q_4, .ref q_5, .ref q_6, .ref q_7, .ref q_8, .ref q_9, .ref q_10, .ref q_11, .ref q_12, .ref q_13, .ref q_14, .ref q_15, .ref q_16, .ref q_17, .ref q_18])), (q_4, .inl (cA_19, 301, .inl g0_1)), (q_15, .inl (cA_20, 301, .inl g1_2))] H := hP
  have hD : va_D A [(q_60, .inr (7, [.int 0, .ref q_1, .int 0, .int 0, .int 1, .int 0, .int 0, .int 0, .ref q_3, .int 0, .int 0, .int 0, .int 0, .long 0, .int 0, .int (-1), .ref q_62, .ref q_63])), (q_62, .inl (cA_64, 60, .inl f_21)), (q_63, .inl (cA_65, 60, .inl (upd f_20 (9 : Int32).toNatClampNeg (-1)))), (q_3, .inr (0, [.int 0, .int 0, .int 0, .int 0, .ref q_4, .ref q_5, .ref q_6, .ref q_7, .ref q_8, .ref q_9, .ref q_10, .ref q_11, .ref q_12, .ref q_13, .ref q_14, .ref q_15, .ref q_16, .ref q_17, .ref q_18])), (q_4, .inl (cA_19, 301, .inl g0_1)), (q_15, .inl (cA_20, 301, .inl g1_2))] := hD
  generalize (upd f_20 (9 : Int32).toNatClampNeg (-1)) = f_22 at hP hD
  refine lv_iinc (v := 10) (lv' := [(4, .int 10), (0, .ref q_60), (1, .ref q_1), (2, .int 0), (3, .ref q_3)]) hx hb dX7_begin_80 hl (k := 0) rfl (by decide) (by decide) rfl (fun ls hl => ?_)
  refine lv_goto (tgt := 57) hx hb dX7_begin_83 (by decide) ?_
  refine lv_iload hx hb dX7_begin_57 (lv_at hl 0 rfl) ?_
  refine lv_bipush (v := 60) hx hb dX7_begin_59 (by decide) ?_
  refine lv_icmp_ge (tgt := 86) hx hb dX7_begin_61 (by decide) (fun h9 => absurd h9 (by decide)) (fun _ => ?_)
  refine lv_aload_n hx hb dX7_begin_64 rfl (lv_at hl 1 rfl) ?_
  refine va_get (D := (dC, dI)) (ci := 7) (v := .ref q_62) (C := RX7) (T := TX7) (N := 18) hx hb hts mem_X7_begin_0 hown hK hP 0 rfl rfl 16 (by decide) (ow (k := 14) rfl) (fun _ h9 => h9) rfl dX7_begin_65 ?_
  refine lv_iload hx hb dX7_begin_68 (lv_at hl 0 rfl) ?_
  refine lv_iconst (v := 0) hx hb dX7_begin_70 (by decide) ?_
  refine va_zast hx hb hK hP hD hS 1 0 rfl rfl (show vp_in 10 60 by rw [vp_in_iff]; decide) dX7_begin_71 (fun H locs hP hD hS => ?_)
  have hP : va_P (dC, dI) vwP [(q_60, .inr (7, [.int 0, .ref q_1, .int 0, .int 0, .int 1, .int 0, .int 0, .int 0, .ref q_3, .int 0, .int 0, .int 0, .int 0, .long 0, .int 0, .int (-1), .ref q_62, .ref q_63])), (q_62, .inl (cA_64, 60, .inl (upd f_21 (10 : Int32).toNatClampNeg (vp_nar .boolean 0)))), (q_63, .inl (cA_65, 60, .inl f_22)), (q_3, .inr (0, [.int 0, .int 0, .int 0, .int 0, .ref q_4, .ref q_5, .ref q_6, .ref q_7, .ref q_8, .ref q_9, .ref q_10, .ref q_11, .ref q_12, .ref q_13, .ref q_14, .ref q_15, .ref q_16, .ref q_17, .ref q_18])), (q_4, .inl (cA_19, 301, .inl g0_1)), (q_15, .inl (cA_20, 301, .inl g1_2))] H := hP
  have hD : va_D A [(q_60, .inr (7, [.int 0, .ref q_1, .int 0, .int 0, .int 1, .int 0, .int 0, .int 0, .ref q_3, .int 0, .int 0, .int 0, .int 0, .long 0, .int 0, .int (-1), .ref q_62, .ref q_63])), (q_62, .inl (cA_64, 60, .inl (upd f_21 (10 : Int32).toNatClampNeg (vp_nar .boolean 0)))), (q_63, .inl (cA_65, 60, .inl f_22)), (q_3, .inr (0, [.int 0, .int 0, .int 0, .int 0, .ref q_4, .ref q_5, .ref q_6, .ref q_7, .ref q_8, .ref q_9, .ref q_10, .ref q_11, .ref q_12, .ref q_13, .ref q_14, .ref q_15, .ref q_16, .ref q_17, .ref q_18])), (q_4, .inl (cA_19, 301, .inl g0_1)), (q_15, .inl (cA_20, 301, .inl g1_2))] := hD
  generalize (upd f_21 (10 : Int32).toNatClampNeg (vp_nar .boolean 0)) = f_23 at hP hD
  refine lv_aload_n hx hb dX7_begin_72 rfl (lv_at hl 1 rfl) ?_
  refine va_get (D := (dC, dI)) (ci := 7) (v := .ref q_63) (C := RX7) (T := TX7) (N := 18) hx hb hts mem_X7_begin_0 hown hK hP 0 rfl rfl 17 (by decide) (ow (k := 15) rfl) (fun _ h9 => h9) rfl dX7_begin_73 ?_
  refine lv_iload hx hb dX7_begin_76 (lv_at hl 0 rfl) ?_
  refine lv_iconst (v := (-1)) hx hb dX7_begin_78 (by decide) ?_
  refine va_iast hx hb hK hP hD hS 2 1 rfl rfl (show vp_in 10 60 by rw [vp_in_iff]; decide) dX7_begin_79 (fun H locs hP hD hS => ?_)
  have hP : va_P (dC, dI) vwP [(q_60, .inr (7, [.int 0, .ref q_1, .int 0, .int 0, .int 1, .int 0, .int 0, .int 0, .ref q_3, .int 0, .int 0, .int 0, .int 0, .long 0, .int 0, .int (-1), .ref q_62, .ref q_63])), (q_62, .inl (cA_64, 60, .inl f_23)), (q_63, .inl (cA_65, 60, .inl (upd f_22 (10 : Int32).toNatClampNeg (-1)))), (q_3, .inr (0, [.int 0, .int 0, .int 0, .int 0, .ref q_4, .ref q_5, .ref q_6, .ref q_7, .ref q_8, .ref q_9, .ref q_10, .ref q_11, .ref q_12, .ref q_13, .ref q_14, .ref q_15, .ref q_16, .ref q_17, .ref q_18])), (q_4, .inl (cA_19, 301, .inl g0_1)), (q_15, .inl (cA_20, 301, .inl g1_2))] H := hP
  have hD : va_D A [(q_60, .inr (7, [.int 0, .ref q_1, .int 0, .int 0, .int 1, .int 0, .int 0, .int 0, .ref q_3, .int 0, .int 0, .int 0, .int 0, .long 0, .int 0, .int (-1), .ref q_62, .ref q_63])), (q_62, .inl (cA_64, 60, .inl f_23)), (q_63, .inl (cA_65, 60, .inl (upd f_22 (10 : Int32).toNatClampNeg (-1)))), (q_3, .inr (0, [.int 0, .int 0, .int 0, .int 0, .ref q_4, .ref q_5, .ref q_6, .ref q_7, .ref q_8, .ref q_9, .ref q_10, .ref q_11, .ref q_12, .ref q_13, .ref q_14, .ref q_15, .ref q_16, .ref q_17, .ref q_18])), (q_4, .inl (cA_19, 301, .inl g0_1)), (q_15, .inl (cA_20, 301, .inl g1_2))] := hD
  generalize (upd f_22 (10 : Int32).toNatClampNeg (-1)) = f_24 at hP hD
  refine lv_iinc (v := 11) (lv' := [(4, .int 11), (0, .ref q_60), (1, .ref q_1), (2, .int 0), (3, .ref q_3)]) hx hb dX7_begin_80 hl (k := 0) rfl (by decide) (by decide) rfl (fun ls hl => ?_)
  refine lv_goto (tgt := 57) hx hb dX7_begin_83 (by decide) ?_
  refine lv_iload hx hb dX7_begin_57 (lv_at hl 0 rfl) ?_
  refine lv_bipush (v := 60) hx hb dX7_begin_59 (by decide) ?_
  refine lv_icmp_ge (tgt := 86) hx hb dX7_begin_61 (by decide) (fun h9 => absurd h9 (by decide)) (fun _ => ?_)
  refine lv_aload_n hx hb dX7_begin_64 rfl (lv_at hl 1 rfl) ?_
  refine va_get (D := (dC, dI)) (ci := 7) (v := .ref q_62) (C := RX7) (T := TX7) (N := 18) hx hb hts mem_X7_begin_0 hown hK hP 0 rfl rfl 16 (by decide) (ow (k := 14) rfl) (fun _ h9 => h9) rfl dX7_begin_65 ?_
  refine lv_iload hx hb dX7_begin_68 (lv_at hl 0 rfl) ?_
  refine lv_iconst (v := 0) hx hb dX7_begin_70 (by decide) ?_
  refine va_zast hx hb hK hP hD hS 1 0 rfl rfl (show vp_in 11 60 by rw [vp_in_iff]; decide) dX7_begin_71 (fun H locs hP hD hS => ?_)
  have hP : va_P (dC, dI) vwP [(q_60, .inr (7, [.int 0, .ref q_1, .int 0, .int 0, .int 1, .int 0, .int 0, .int 0, .ref q_3, .int 0, .int 0, .int 0, .int 0, .long 0, .int 0, .int (-1), .ref q_62, .ref q_63])), (q_62, .inl (cA_64, 60, .inl (upd f_23 (11 : Int32).toNatClampNeg (vp_nar .boolean 0)))), (q_63, .inl (cA_65, 60, .inl f_24)), (q_3, .inr (0, [.int 0, .int 0, .int 0, .int 0, .ref q_4, .ref q_5, .ref q_6, .ref q_7, .ref q_8, .ref q_9, .ref q_10, .ref q_11, .ref q_12, .ref q_13, .ref q_14, .ref q_15, .ref q_16, .ref q_17, .ref q_18])), (q_4, .inl (cA_19, 301, .inl g0_1)), (q_15, .inl (cA_20, 301, .inl g1_2))] H := hP
  have hD : va_D A [(q_60, .inr (7, [.int 0, .ref q_1, .int 0, .int 0, .int 1, .int 0, .int 0, .int 0, .ref q_3, .int 0, .int 0, .int 0, .int 0, .long 0, .int 0, .int (-1), .ref q_62, .ref q_63])), (q_62, .inl (cA_64, 60, .inl (upd f_23 (11 : Int32).toNatClampNeg (vp_nar .boolean 0)))), (q_63, .inl (cA_65, 60, .inl f_24)), (q_3, .inr (0, [.int 0, .int 0, .int 0, .int 0, .ref q_4, .ref q_5, .ref q_6, .ref q_7, .ref q_8, .ref q_9, .ref q_10, .ref q_11, .ref q_12, .ref q_13, .ref q_14, .ref q_15, .ref q_16, .ref q_17, .ref q_18])), (q_4, .inl (cA_19, 301, .inl g0_1)), (q_15, .inl (cA_20, 301, .inl g1_2))] := hD
  generalize (upd f_23 (11 : Int32).toNatClampNeg (vp_nar .boolean 0)) = f_25 at hP hD
  refine lv_aload_n hx hb dX7_begin_72 rfl (lv_at hl 1 rfl) ?_
  refine va_get (D := (dC, dI)) (ci := 7) (v := .ref q_63) (C := RX7) (T := TX7) (N := 18) hx hb hts mem_X7_begin_0 hown hK hP 0 rfl rfl 17 (by decide) (ow (k := 15) rfl) (fun _ h9 => h9) rfl dX7_begin_73 ?_
  refine lv_iload hx hb dX7_begin_76 (lv_at hl 0 rfl) ?_
  refine lv_iconst (v := (-1)) hx hb dX7_begin_78 (by decide) ?_
  refine va_iast hx hb hK hP hD hS 2 1 rfl rfl (show vp_in 11 60 by rw [vp_in_iff]; decide) dX7_begin_79 (fun H locs hP hD hS => ?_)
  have hP : va_P (dC, dI) vwP [(q_60, .inr (7, [.int 0, .ref q_1, .int 0, .int 0, .int 1, .int 0, .int 0, .int 0, .ref q_3, .int 0, .int 0, .int 0, .int 0, .long 0, .int 0, .int (-1), .ref q_62, .ref q_63])), (q_62, .inl (cA_64, 60, .inl f_25)), (q_63, .inl (cA_65, 60, .inl (upd f_24 (11 : Int32).toNatClampNeg (-1)))), (q_3, .inr (0, [.int 0, .int 0, .int 0, .int 0, .ref q_4, .ref q_5, .ref q_6, .ref q_7, .ref q_8, .ref q_9, .ref q_10, .ref q_11, .ref q_12, .ref q_13, .ref q_14, .ref q_15, .ref q_16, .ref q_17, .ref q_18])), (q_4, .inl (cA_19, 301, .inl g0_1)), (q_15, .inl (cA_20, 301, .inl g1_2))] H := hP
  have hD : va_D A [(q_60, .inr (7, [.int 0, .ref q_1, .int 0, .int 0, .int 1, .int 0, .int 0, .int 0, .ref q_3, .int 0, .int 0, .int 0, .int 0, .long 0, .int 0, .int (-1), .ref q_62, .ref q_63])), (q_62, .inl (cA_64, 60, .inl f_25)), (q_63, .inl (cA_65, 60, .inl (upd f_24 (11 : Int32).toNatClampNeg (-1)))), (q_3, .inr (0, [.int 0, .int 0, .int 0, .int 0, .ref q_4, .ref q_5, .ref q_6, .ref q_7, .ref q_8, .ref q_9, .ref q_10, .ref q_11, .ref q_12, .ref q_13, .ref q_14, .ref q_15, .ref q_16, .ref q_17, .ref q_18])), (q_4, .inl (cA_19, 301, .inl g0_1)), (q_15, .inl (cA_20, 301, .inl g1_2))] := hD
  generalize (upd f_24 (11 : Int32).toNatClampNeg (-1)) = f_26 at hP hD
  refine lv_iinc (v := 12) (lv' := [(4, .int 12), (0, .ref q_60), (1, .ref q_1), (2, .int 0), (3, .ref q_3)]) hx hb dX7_begin_80 hl (k := 0) rfl (by decide) (by decide) rfl (fun ls hl => ?_)
  refine lv_goto (tgt := 57) hx hb dX7_begin_83 (by decide) ?_
  refine lv_iload hx hb dX7_begin_57 (lv_at hl 0 rfl) ?_
  refine lv_bipush (v := 60) hx hb dX7_begin_59 (by decide) ?_
  refine lv_icmp_ge (tgt := 86) hx hb dX7_begin_61 (by decide) (fun h9 => absurd h9 (by decide)) (fun _ => ?_)
  refine lv_aload_n hx hb dX7_begin_64 rfl (lv_at hl 1 rfl) ?_
  refine va_get (D := (dC, dI)) (ci := 7) (v := .ref q_62) (C := RX7) (T := TX7) (N := 18) hx hb hts mem_X7_begin_0 hown hK hP 0 rfl rfl 16 (by decide) (ow (k := 14) rfl) (fun _ h9 => h9) rfl dX7_begin_65 ?_
  refine lv_iload hx hb dX7_begin_68 (lv_at hl 0 rfl) ?_
  refine lv_iconst (v := 0) hx hb dX7_begin_70 (by decide) ?_
  refine va_zast hx hb hK hP hD hS 1 0 rfl rfl (show vp_in 12 60 by rw [vp_in_iff]; decide) dX7_begin_71 (fun H locs hP hD hS => ?_)
  have hP : va_P (dC, dI) vwP [(q_60, .inr (7, [.int 0, .ref q_1, .int 0, .int 0, .int 1, .int 0, .int 0, .int 0, .ref q_3, .int 0, .int 0, .int 0, .int 0, .long 0, .int 0, .int (-1), .ref q_62, .ref q_63])), (q_62, .inl (cA_64, 60, .inl (upd f_25 (12 : Int32).toNatClampNeg (vp_nar .boolean 0)))), (q_63, .inl (cA_65, 60, .inl f_26)), (q_3, .inr (0, [.int 0, .int 0, .int 0, .int 0, .ref q_4, .ref q_5, .ref q_6, .ref q_7, .ref q_8, .ref q_9, .ref q_10, .ref q_11, .ref q_12, .ref q_13, .ref q_14, .ref q_15, .ref q_16, .ref q_17, .ref q_18])), (q_4, .inl (cA_19, 301, .inl g0_1)), (q_15, .inl (cA_20, 301, .inl g1_2))] H := hP
  have hD : va_D A [(q_60, .inr (7, [.int 0, .ref q_1, .int 0, .int 0, .int 1, .int 0, .int 0, .int 0, .ref q_3, .int 0, .int 0, .int 0, .int 0, .long 0, .int 0, .int (-1), .ref q_62, .ref q_63])), (q_62, .inl (cA_64, 60, .inl (upd f_25 (12 : Int32).toNatClampNeg (vp_nar .boolean 0)))), (q_63, .inl (cA_65, 60, .inl f_26)), (q_3, .inr (0, [.int 0, .int 0, .int 0, .int 0, .ref q_4, .ref q_5, .ref q_6, .ref q_7, .ref q_8, .ref q_9, .ref q_10, .ref q_11, .ref q_12, .ref q_13, .ref q_14, .ref q_15, .ref q_16, .ref q_17, .ref q_18])), (q_4, .inl (cA_19, 301, .inl g0_1)), (q_15, .inl (cA_20, 301, .inl g1_2))] := hD
  generalize (upd f_25 (12 : Int32).toNatClampNeg (vp_nar .boolean 0)) = f_27 at hP hD
  refine lv_aload_n hx hb dX7_begin_72 rfl (lv_at hl 1 rfl) ?_
  refine va_get (D := (dC, dI)) (ci := 7) (v := .ref q_63) (C := RX7) (T := TX7) (N := 18) hx hb hts mem_X7_begin_0 hown hK hP 0 rfl rfl 17 (by decide) (ow (k := 15) rfl) (fun _ h9 => h9) rfl dX7_begin_73 ?_
  refine lv_iload hx hb dX7_begin_76 (lv_at hl 0 rfl) ?_
  refine lv_iconst (v := (-1)) hx hb dX7_begin_78 (by decide) ?_
  refine va_iast hx hb hK hP hD hS 2 1 rfl rfl (show vp_in 12 60 by rw [vp_in_iff]; decide) dX7_begin_79 (fun H locs hP hD hS => ?_)
  have hP : va_P (dC, dI) vwP [(q_60, .inr (7, [.int 0, .ref q_1, .int 0, .int 0, .int 1, .int 0, .int 0, .int 0, .ref q_3, .int 0, .int 0, .int 0, .int 0, .long 0, .int 0, .int (-1), .ref q_62, .ref q_63])), (q_62, .inl (cA_64, 60, .inl f_27)), (q_63, .inl (cA_65, 60, .inl (upd f_26 (12 : Int32).toNatClampNeg (-1)))), (q_3, .inr (0, [.int 0, .int 0, .int 0, .int 0, .ref q_4, .ref q_5, .ref q_6, .ref q_7, .ref q_8, .ref q_9, .ref q_10, .ref q_11, .ref q_12, .ref q_13, .ref q_14, .ref q_15, .ref q_16, .ref q_17, .ref q_18])), (q_4, .inl (cA_19, 301, .inl g0_1)), (q_15, .inl (cA_20, 301, .inl g1_2))] H := hP
  have hD : va_D A [(q_60, .inr (7, [.int 0, .ref q_1, .int 0, .int 0, .int 1, .int 0, .int 0, .int 0, .ref q_3, .int 0, .int 0, .int 0, .int 0, .long 0, .int 0, .int (-1), .ref q_62, .ref q_63])), (q_62, .inl (cA_64, 60, .inl f_27)), (q_63, .inl (cA_65, 60, .inl (upd f_26 (12 : Int32).toNatClampNeg (-1)))), (q_3, .inr (0, [.int 0, .int 0, .int 0, .int 0, .ref q_4, .ref q_5, .ref q_6, .ref q_7, .ref q_8, .ref q_9, .ref q_10, .ref q_11, .ref q_12, .ref q_13, .ref q_14, .ref q_15, .ref q_16, .ref q_17, .ref q_18])), (q_4, .inl (cA_19, 301, .inl g0_1)), (q_15, .inl (cA_20, 301, .inl g1_2))] := hD
  generalize (upd f_26 (12 : Int32).toNatClampNeg (-1)) = f_28 at hP hD
  refine lv_iinc (v := 13) (lv' := [(4, .int 13), (0, .ref q_60), (1, .ref q_1), (2, .int 0), (3, .ref q_3)]) hx hb dX7_begin_80 hl (k := 0) rfl (by decide) (by decide) rfl (fun ls hl => ?_)
  refine lv_goto (tgt := 57) hx hb dX7_begin_83 (by decide) ?_
  refine lv_iload hx hb dX7_begin_57 (lv_at hl 0 rfl) ?_
  refine lv_bipush (v := 60) hx hb dX7_begin_59 (by decide) ?_
  refine lv_icmp_ge (tgt := 86) hx hb dX7_begin_61 (by decide) (fun h9 => absurd h9 (by decide)) (fun _ => ?_)
  refine lv_aload_n hx hb dX7_begin_64 rfl (lv_at hl 1 rfl) ?_
  refine va_get (D := (dC, dI)) (ci := 7) (v := .ref q_62) (C := RX7) (T := TX7) (N := 18) hx hb hts mem_X7_begin_0 hown hK hP 0 rfl rfl 16 (by decide) (ow (k := 14) rfl) (fun _ h9 => h9) rfl dX7_begin_65 ?_
  refine lv_iload hx hb dX7_begin_68 (lv_at hl 0 rfl) ?_
  refine lv_iconst (v := 0) hx hb dX7_begin_70 (by decide) ?_
  refine va_zast hx hb hK hP hD hS 1 0 rfl rfl (show vp_in 13 60 by rw [vp_in_iff]; decide) dX7_begin_71 (fun H locs hP hD hS => ?_)
  have hP : va_P (dC, dI) vwP [(q_60, .inr (7, [.int 0, .ref q_1, .int 0, .int 0, .int 1, .int 0, .int 0, .int 0, .ref q_3, .int 0, .int 0, .int 0, .int 0, .long 0, .int 0, .int (-1), .ref q_62, .ref q_63])), (q_62, .inl (cA_64, 60, .inl (upd f_27 (13 : Int32).toNatClampNeg (vp_nar .boolean 0)))), (q_63, .inl (cA_65, 60, .inl f_28)), (q_3, .inr (0, [.int 0, .int 0, .int 0, .int 0, .ref q_4, .ref q_5, .ref q_6, .ref q_7, .ref q_8, .ref q_9, .ref q_10, .ref q_11, .ref q_12, .ref q_13, .ref q_14, .ref q_15, .ref q_16, .ref q_17, .ref q_18])), (q_4, .inl (cA_19, 301, .inl g0_1)), (q_15, .inl (cA_20, 301, .inl g1_2))] H := hP
  have hD : va_D A [(q_60, .inr (7, [.int 0, .ref q_1, .int 0, .int 0, .int 1, .int 0, .int 0, .int 0, .ref q_3, .int 0, .int 0, .int 0, .int 0, .long 0, .int 0, .int (-1), .ref q_62, .ref q_63])), (q_62, .inl (cA_64, 60, .inl (upd f_27 (13 : Int32).toNatClampNeg (vp_nar .boolean 0)))), (q_63, .inl (cA_65, 60, .inl f_28)), (q_3, .inr (0, [.int 0, .int 0, .int 0, .int 0, .ref q_4, .ref q_5, .ref q_6, .ref q_7, .ref q_8, .ref q_9, .ref q_10, .ref q_11, .ref q_12, .ref q_13, .ref q_14, .ref q_15, .ref q_16, .ref q_17, .ref q_18])), (q_4, .inl (cA_19, 301, .inl g0_1)), (q_15, .inl (cA_20, 301, .inl g1_2))] := hD
  generalize (upd f_27 (13 : Int32).toNatClampNeg (vp_nar .boolean 0)) = f_29 at hP hD
  refine lv_aload_n hx hb dX7_begin_72 rfl (lv_at hl 1 rfl) ?_
  refine va_get (D := (dC, dI)) (ci := 7) (v := .ref q_63) (C := RX7) (T := TX7) (N := 18) hx hb hts mem_X7_begin_0 hown hK hP 0 rfl rfl 17 (by decide) (ow (k := 15) rfl) (fun _ h9 => h9) rfl dX7_begin_73 ?_
  refine lv_iload hx hb dX7_begin_76 (lv_at hl 0 rfl) ?_
  refine lv_iconst (v := (-1)) hx hb dX7_begin_78 (by decide) ?_
  refine va_iast hx hb hK hP hD hS 2 1 rfl rfl (show vp_in 13 60 by rw [vp_in_iff]; decide) dX7_begin_79 (fun H locs hP hD hS => ?_)
  have hP : va_P (dC, dI) vwP [(q_60, .inr (7, [.int 0, .ref q_1, .int 0, .int 0, .int 1, .int 0, .int 0, .int 0, .ref q_3, .int 0, .int 0, .int 0, .int 0, .long 0, .int 0, .int (-1), .ref q_62, .ref q_63])), (q_62, .inl (cA_64, 60, .inl f_29)), (q_63, .inl (cA_65, 60, .inl (upd f_28 (13 : Int32).toNatClampNeg (-1)))), (q_3, .inr (0, [.int 0, .int 0, .int 0, .int 0, .ref q_4, .ref q_5, .ref q_6, .ref q_7, .ref q_8, .ref q_9, .ref q_10, .ref q_11, .ref q_12, .ref q_13, .ref q_14, .ref q_15, .ref q_16, .ref q_17, .ref q_18])), (q_4, .inl (cA_19, 301, .inl g0_1)), (q_15, .inl (cA_20, 301, .inl g1_2))] H := hP
  have hD : va_D A [(q_60, .inr (7, [.int 0, .ref q_1, .int 0, .int 0, .int 1, .int 0, .int 0, .int 0, .ref q_3, .int 0, .int 0, .int 0, .int 0, .long 0, .int 0, .int (-1), .ref q_62, .ref q_63])), (q_62, .inl (cA_64, 60, .inl f_29)), (q_63, .inl (cA_65, 60, .inl (upd f_28 (13 : Int32).toNatClampNeg (-1)))), (q_3, .inr (0, [.int 0, .int 0, .int 0, .int 0, .ref q_4, .ref q_5, .ref q_6, .ref q_7, .ref q_8, .ref q_9, .ref q_10, .ref q_11, .ref q_12, .ref q_13, .ref q_14, .ref q_15, .ref q_16, .ref q_17, .ref q_18])), (q_4, .inl (cA_19, 301, .inl g0_1)), (q_15, .inl (cA_20, 301, .inl g1_2))] := hD
  generalize (upd f_28 (13 : Int32).toNatClampNeg (-1)) = f_30 at hP hD
  refine lv_iinc (v := 14) (lv' := [(4, .int 14), (0, .ref q_60), (1, .ref q_1), (2, .int 0), (3, .ref q_3)]) hx hb dX7_begin_80 hl (k := 0) rfl (by decide) (by decide) rfl (fun ls hl => ?_)
  refine lv_goto (tgt := 57) hx hb dX7_begin_83 (by decide) ?_
  refine lv_iload hx hb dX7_begin_57 (lv_at hl 0 rfl) ?_
  refine lv_bipush (v := 60) hx hb dX7_begin_59 (by decide) ?_
  refine lv_icmp_ge (tgt := 86) hx hb dX7_begin_61 (by decide) (fun h9 => absurd h9 (by decide)) (fun _ => ?_)
  refine lv_aload_n hx hb dX7_begin_64 rfl (lv_at hl 1 rfl) ?_
  refine va_get (D := (dC, dI)) (ci := 7) (v := .ref q_62) (C := RX7) (T := TX7) (N := 18) hx hb hts mem_X7_begin_0 hown hK hP 0 rfl rfl 16 (by decide) (ow (k := 14) rfl) (fun _ h9 => h9) rfl dX7_begin_65 ?_
  refine lv_iload hx hb dX7_begin_68 (lv_at hl 0 rfl) ?_
  refine lv_iconst (v := 0) hx hb dX7_begin_70 (by decide) ?_
  refine va_zast hx hb hK hP hD hS 1 0 rfl rfl (show vp_in 14 60 by rw [vp_in_iff]; decide) dX7_begin_71 (fun H locs hP hD hS => ?_)
  have hP : va_P (dC, dI) vwP [(q_60, .inr (7, [.int 0, .ref q_1, .int 0, .int 0, .int 1, .int 0, .int 0, .int 0, .ref q_3, .int 0, .int 0, .int 0, .int 0, .long 0, .int 0, .int (-1), .ref q_62, .ref q_63])), (q_62, .inl (cA_64, 60, .inl (upd f_29 (14 : Int32).toNatClampNeg (vp_nar .boolean 0)))), (q_63, .inl (cA_65, 60, .inl f_30)), (q_3, .inr (0, [.int 0, .int 0, .int 0, .int 0, .ref q_4, .ref q_5, .ref q_6, .ref q_7, .ref q_8, .ref q_9, .ref q_10, .ref q_11, .ref q_12, .ref q_13, .ref q_14, .ref q_15, .ref q_16, .ref q_17, .ref q_18])), (q_4, .inl (cA_19, 301, .inl g0_1)), (q_15, .inl (cA_20, 301, .inl g1_2))] H := hP
  have hD : va_D A [(q_60, .inr (7, [.int 0, .ref q_1, .int 0, .int 0, .int 1, .int 0, .int 0, .int 0, .ref q_3, .int 0, .int 0, .int 0, .int 0, .long 0, .int 0, .int (-1), .ref q_62, .ref q_63])), (q_62, .inl (cA_64, 60, .inl (upd f_29 (14 : Int32).toNatClampNeg (vp_nar .boolean 0)))), (q_63, .inl (cA_65, 60, .inl f_30)), (q_3, .inr (0, [.int 0, .int 0, .int 0, .int 0, .ref q_4, .ref q_5, .ref q_6, .ref q_7, .ref q_8, .ref q_9, .ref q_10, .ref q_11, .ref q_12, .ref q_13, .ref q_14, .ref q_15, .ref q_16, .ref q_17, .ref q_18])), (q_4, .inl (cA_19, 301, .inl g0_1)), (q_15, .inl (cA_20, 301, .inl g1_2))] := hD
  generalize (upd f_29 (14 : Int32).toNatClampNeg (vp_nar .boolean 0)) = f_31 at hP hD
  refine lv_aload_n hx hb dX7_begin_72 rfl (lv_at hl 1 rfl) ?_
  refine va_get (D := (dC, dI)) (ci := 7) (v := .ref q_63) (C := RX7) (T := TX7) (N := 18) hx hb hts mem_X7_begin_0 hown hK hP 0 rfl rfl 17 (by decide) (ow (k := 15) rfl) (fun _ h9 => h9) rfl dX7_begin_73 ?_
  refine lv_iload hx hb dX7_begin_76 (lv_at hl 0 rfl) ?_
  refine lv_iconst (v := (-1)) hx hb dX7_begin_78 (by decide) ?_
  refine va_iast hx hb hK hP hD hS 2 1 rfl rfl (show vp_in 14 60 by rw [vp_in_iff]; decide) dX7_begin_79 (fun H locs hP hD hS => ?_)
  have hP : va_P (dC, dI) vwP [(q_60, .inr (7, [.int 0, .ref q_1, .int 0, .int 0, .int 1, .int 0, .int 0, .int 0, .ref q_3, .int 0, .int 0, .int 0, .int 0, .long 0, .int 0, .int (-1), .ref q_62, .ref q_63])), (q_62, .inl (cA_64, 60, .inl f_31)), (q_63, .inl (cA_65, 60, .inl (upd f_30 (14 : Int32).toNatClampNeg (-1)))), (q_3, .inr (0, [.int 0, .int 0, .int 0, .int 0, .ref q_4, .ref q_5, .ref q_6, .ref q_7, .ref q_8, .ref q_9, .ref q_10, .ref q_11, .ref q_12, .ref q_13, .ref q_14, .ref q_15, .ref q_16, .ref q_17, .ref q_18])), (q_4, .inl (cA_19, 301, .inl g0_1)), (q_15, .inl (cA_20, 301, .inl g1_2))] H := hP
  have hD : va_D A [(q_60, .inr (7, [.int 0, .ref q_1, .int 0, .int 0, .int 1, .int 0, .int 0, .int 0, .ref q_3, .int 0, .int 0, .int 0, .int 0, .long 0, .int 0, .int (-1), .ref q_62, .ref q_63])), (q_62, .inl (cA_64, 60, .inl f_31)), (q_63, .inl (cA_65, 60, .inl (upd f_30 (14 : Int32).toNatClampNeg (-1)))), (q_3, .inr (0, [.int 0, .int 0, .int 0, .int 0, .ref q_4, .ref q_5, .ref q_6, .ref q_7, .ref q_8, .ref q_9, .ref q_10, .ref q_11, .ref q_12, .ref q_13, .ref q_14, .ref q_15, .ref q_16, .ref q_17, .ref q_18])), (q_4, .inl (cA_19, 301, .inl g0_1)), (q_15, .inl (cA_20, 301, .inl g1_2))] := hD
  generalize (upd f_30 (14 : Int32).toNatClampNeg (-1)) = f_32 at hP hD
  refine lv_iinc (v := 15) (lv' := [(4, .int 15), (0, .ref q_60), (1, .ref q_1), (2, .int 0), (3, .ref q_3)]) hx hb dX7_begin_80 hl (k := 0) rfl (by decide) (by decide) rfl (fun ls hl => ?_)
  refine lv_goto (tgt := 57) hx hb dX7_begin_83 (by decide) ?_
  refine lv_iload hx hb dX7_begin_57 (lv_at hl 0 rfl) ?_
  refine lv_bipush (v := 60) hx hb dX7_begin_59 (by decide) ?_
  refine lv_icmp_ge (tgt := 86) hx hb dX7_begin_61 (by decide) (fun h9 => absurd h9 (by decide)) (fun _ => ?_)
  refine lv_aload_n hx hb dX7_begin_64 rfl (lv_at hl 1 rfl) ?_
  refine va_get (D := (dC, dI)) (ci := 7) (v := .ref q_62) (C := RX7) (T := TX7) (N := 18) hx hb hts mem_X7_begin_0 hown hK hP 0 rfl rfl 16 (by decide) (ow (k := 14) rfl) (fun _ h9 => h9) rfl dX7_begin_65 ?_
  refine lv_iload hx hb dX7_begin_68 (lv_at hl 0 rfl) ?_
  refine lv_iconst (v := 0) hx hb dX7_begin_70 (by decide) ?_
  refine va_zast hx hb hK hP hD hS 1 0 rfl rfl (show vp_in 15 60 by rw [vp_in_iff]; decide) dX7_begin_71 (fun H locs hP hD hS => ?_)
  have hP : va_P (dC, dI) vwP [(q_60, .inr (7, [.int 0, .ref q_1, .int 0, .int 0, .int 1, .int 0, .int 0, .int 0, .ref q_3, .int 0, .int 0, .int 0, .int 0, .long 0, .int 0, .int (-1), .ref q_62, .ref q_63])), (q_62, .inl (cA_64, 60, .inl (upd f_31 (15 : Int32).toNatClampNeg (vp_nar .boolean 0)))), (q_63, .inl (cA_65, 60, .inl f_32)), (q_3, .inr (0, [.int 0, .int 0, .int 0, .int 0, .ref q_4, .ref q_5, .ref q_6, .ref q_7, .ref q_8, .ref q_9, .ref q_10, .ref q_11, .ref q_12, .ref q_13, .ref q_14, .ref q_15, .ref q_16, .ref q_17, .ref q_18])), (q_4, .inl (cA_19, 301, .inl g0_1)), (q_15, .inl (cA_20, 301, .inl g1_2))] H := hP
  have hD : va_D A [(q_60, .inr (7, [.int 0, .ref q_1, .int 0, .int 0, .int 1, .int 0, .int 0, .int 0, .ref q_3, .int 0, .int 0, .int 0, .int 0, .long 0, .int 0, .int (-1), .ref q_62, .ref q_63])), (q_62, .inl (cA_64, 60, .inl (upd f_31 (15 : Int32).toNatClampNeg (vp_nar .boolean 0)))), (q_63, .inl (cA_65, 60, .inl f_32)), (q_3, .inr (0, [.int 0, .int 0, .int 0, .int 0, .ref q_4, .ref q_5, .ref q_6, .ref q_7, .ref q_8, .ref q_9, .ref q_10, .ref q_11, .ref q_12, .ref q_13, .ref q_14, .ref q_15, .ref q_16, .ref q_17, .ref q_18])), (q_4, .inl (cA_19, 301, .inl g0_1)), (q_15, .inl (cA_20, 301, .inl g1_2))] := hD
  generalize (upd f_31 (15 : Int32).toNatClampNeg (vp_nar .boolean 0)) = f_33 at hP hD
  refine lv_aload_n hx hb dX7_begin_72 rfl (lv_at hl 1 rfl) ?_
  refine va_get (D := (dC, dI)) (ci := 7) (v := .ref q_63) (C := RX7) (T := TX7) (N := 18) hx hb hts mem_X7_begin_0 hown hK hP 0 rfl rfl 17 (by decide) (ow (k := 15) rfl) (fun _ h9 => h9) rfl dX7_begin_73 ?_
  refine lv_iload hx hb dX7_begin_76 (lv_at hl 0 rfl) ?_
  refine lv_iconst (v := (-1)) hx hb dX7_begin_78 (by decide) ?_
  refine va_iast hx hb hK hP hD hS 2 1 rfl rfl (show vp_in 15 60 by rw [vp_in_iff]; decide) dX7_begin_79 (fun H locs hP hD hS => ?_)
  have hP : va_P (dC, dI) vwP [(q_60, .inr (7, [.int 0, .ref q_1, .int 0, .int 0, .int 1, .int 0, .int 0, .int 0, .ref q_3, .int 0, .int 0, .int 0, .int 0, .long 0, .int 0, .int (-1), .ref q_62, .ref q_63])), (q_62, .inl (cA_64, 60, .inl f_33)), (q_63, .inl (cA_65, 60, .inl (upd f_32 (15 : Int32).toNatClampNeg (-1)))), (q_3, .inr (0, [.int 0, .int 0, .int 0, .int 0, .ref q_4, .ref q_5, .ref q_6, .ref q_7, .ref q_8, .ref q_9, .ref q_10, .ref q_11, .ref q_12, .ref q_13, .ref q_14, .ref q_15, .ref q_16, .ref q_17, .ref q_18])), (q_4, .inl (cA_19, 301, .inl g0_1)), (q_15, .inl (cA_20, 301, .inl g1_2))] H := hP
  have hD : va_D A [(q_60, .inr (7, [.int 0, .ref q_1, .int 0, .int 0, .int 1, .int 0, .int 0, .int 0, .ref q_3, .int 0, .int 0, .int 0, .int 0, .long 0, .int 0, .int (-1), .ref q_62, .ref q_63])), (q_62, .inl (cA_64, 60, .inl f_33)), (q_63, .inl (cA_65, 60, .inl (upd f_32 (15 : Int32).toNatClampNeg (-1)))), (q_3, .inr (0, [.int 0, .int 0, .int 0, .int 0, .ref q_4, .ref q_5, .ref q_6, .ref q_7, .ref q_8, .ref q_9, .ref q_10, .ref q_11, .ref q_12, .ref q_13, .ref q_14, .ref q_15, .ref q_16, .ref q_17, .ref q_18])), (q_4, .inl (cA_19, 301, .inl g0_1)), (q_15, .inl (cA_20, 301, .inl g1_2))] := hD
  generalize (upd f_32 (15 : Int32).toNatClampNeg (-1)) = f_34 at hP hD
  refine lv_iinc (v := 16) (lv' := [(4, .int 16), (0, .ref q_60), (1, .ref q_1), (2, .int 0), (3, .ref q_3)]) hx hb dX7_begin_80 hl (k := 0) rfl (by decide) (by decide) rfl (fun ls hl => ?_)
  refine lv_goto (tgt := 57) hx hb dX7_begin_83 (by decide) ?_
  refine lv_iload hx hb dX7_begin_57 (lv_at hl 0 rfl) ?_
  refine lv_bipush (v := 60) hx hb dX7_begin_59 (by decide) ?_
  refine lv_icmp_ge (tgt := 86) hx hb dX7_begin_61 (by decide) (fun h9 => absurd h9 (by decide)) (fun _ => ?_)
  refine lv_aload_n hx hb dX7_begin_64 rfl (lv_at hl 1 rfl) ?_
  refine va_get (D := (dC, dI)) (ci := 7) (v := .ref q_62) (C := RX7) (T := TX7) (N := 18) hx hb hts mem_X7_begin_0 hown hK hP 0 rfl rfl 16 (by decide) (ow (k := 14) rfl) (fun _ h9 => h9) rfl dX7_begin_65 ?_
  refine lv_iload hx hb dX7_begin_68 (lv_at hl 0 rfl) ?_
  refine lv_iconst (v := 0) hx hb dX7_begin_70 (by decide) ?_
  refine va_zast hx hb hK hP hD hS 1 0 rfl rfl (show vp_in 16 60 by rw [vp_in_iff]; decide) dX7_begin_71 (fun H locs hP hD hS => ?_)
  have hP : va_P (dC, dI) vwP [(q_60, .inr (7, [.int 0, .ref q_1, .int 0, .int 0, .int 1, .int 0, .int 0, .int 0, .ref q_3, .int 0, .int 0, .int 0, .int 0, .long 0, .int 0, .int (-1), .ref q_62, .ref q_63])), (q_62, .inl (cA_64, 60, .inl (upd f_33 (16 : Int32).toNatClampNeg (vp_nar .boolean 0)))), (q_63, .inl (cA_65, 60, .inl f_34)), (q_3, .inr (0, [.int 0, .int 0, .int 0, .int 0, .ref q_4, .ref q_5, .ref q_6, .ref q_7, .ref q_8, .ref q_9, .ref q_10, .ref q_11, .ref q_12, .ref q_13, .ref q_14, .ref q_15, .ref q_16, .ref q_17, .ref q_18])), (q_4, .inl (cA_19, 301, .inl g0_1)), (q_15, .inl (cA_20, 301, .inl g1_2))] H := hP
  have hD : va_D A [(q_60, .inr (7, [.int 0, .ref q_1, .int 0, .int 0, .int 1, .int 0, .int 0, .int 0, .ref q_3, .int 0, .int 0, .int 0, .int 0, .long 0, .int 0, .int (-1), .ref q_62, .ref q_63])), (q_62, .inl (cA_64, 60, .inl (upd f_33 (16 : Int32).toNatClampNeg (vp_nar .boolean 0)))), (q_63, .inl (cA_65, 60, .inl f_34)), (q_3, .inr (0, [.int 0, .int 0, .int 0, .int 0, .ref q_4, .ref q_5, .ref q_6, .ref q_7, .ref q_8, .ref q_9, .ref q_10, .ref q_11, .ref q_12, .ref q_13, .ref q_14, .ref q_15, .ref q_16, .ref q_17, .ref q_18])), (q_4, .inl (cA_19, 301, .inl g0_1)), (q_15, .inl (cA_20, 301, .inl g1_2))] := hD
  generalize (upd f_33 (16 : Int32).toNatClampNeg (vp_nar .boolean 0)) = f_35 at hP hD
  refine lv_aload_n hx hb dX7_begin_72 rfl (lv_at hl 1 rfl) ?_
  refine va_get (D := (dC, dI)) (ci := 7) (v := .ref q_63) (C := RX7) (T := TX7) (N := 18) hx hb hts mem_X7_begin_0 hown hK hP 0 rfl rfl 17 (by decide) (ow (k := 15) rfl) (fun _ h9 => h9) rfl dX7_begin_73 ?_
  refine lv_iload hx hb dX7_begin_76 (lv_at hl 0 rfl) ?_
  refine lv_iconst (v := (-1)) hx hb dX7_begin_78 (by decide) ?_
  refine va_iast hx hb hK hP hD hS 2 1 rfl rfl (show vp_in 16 60 by rw [vp_in_iff]; decide) dX7_begin_79 (fun H locs hP hD hS => ?_)
  have hP : va_P (dC, dI) vwP [(q_60, .inr (7, [.int 0, .ref q_1, .int 0, .int 0, .int 1, .int 0, .int 0, .int 0, .ref q_3, .int 0, .int 0, .int 0, .int 0, .long 0, .int 0, .int (-1), .ref q_62, .ref q_63])), (q_62, .inl (cA_64, 60, .inl f_35)), (q_63, .inl (cA_65, 60, .inl (upd f_34 (16 : Int32).toNatClampNeg (-1)))), (q_3, .inr (0, [.int 0, .int 0, .int 0, .int 0, .ref q_4, .ref q_5, .ref q_6, .ref q_7, .ref q_8, .ref q_9, .ref q_10, .ref q_11, .ref q_12, .ref q_13, .ref q_14, .ref q_15, .ref q_16, .ref q_17, .ref q_18])), (q_4, .inl (cA_19, 301, .inl g0_1)), (q_15, .inl (cA_20, 301, .inl g1_2))] H := hP
  have hD : va_D A [(q_60, .inr (7, [.int 0, .ref q_1, .int 0, .int 0, .int 1, .int 0, .int 0, .int 0, .ref q_3, .int 0, .int 0, .int 0, .int 0, .long 0, .int 0, .int (-1), .ref q_62, .ref q_63])), (q_62, .inl (cA_64, 60, .inl f_35)), (q_63, .inl (cA_65, 60, .inl (upd f_34 (16 : Int32).toNatClampNeg (-1)))), (q_3, .inr (0, [.int 0, .int 0, .int 0, .int 0, .ref q_4, .ref q_5, .ref q_6, .ref q_7, .ref q_8, .ref q_9, .ref q_10, .ref q_11, .ref q_12, .ref q_13, .ref q_14, .ref q_15, .ref q_16, .ref q_17, .ref q_18])), (q_4, .inl (cA_19, 301, .inl g0_1)), (q_15, .inl (cA_20, 301, .inl g1_2))] := hD
  generalize (upd f_34 (16 : Int32).toNatClampNeg (-1)) = f_36 at hP hD
  refine lv_iinc (v := 17) (lv' := [(4, .int 17), (0, .ref q_60), (1, .ref q_1), (2, .int 0), (3, .ref q_3)]) hx hb dX7_begin_80 hl (k := 0) rfl (by decide) (by decide) rfl (fun ls hl => ?_)
  refine lv_goto (tgt := 57) hx hb dX7_begin_83 (by decide) ?_
  refine lv_iload hx hb dX7_begin_57 (lv_at hl 0 rfl) ?_
  refine lv_bipush (v := 60) hx hb dX7_begin_59 (by decide) ?_
  refine lv_icmp_ge (tgt := 86) hx hb dX7_begin_61 (by decide) (fun h9 => absurd h9 (by decide)) (fun _ => ?_)
  refine lv_aload_n hx hb dX7_begin_64 rfl (lv_at hl 1 rfl) ?_
  refine va_get (D := (dC, dI)) (ci := 7) (v := .ref q_62) (C := RX7) (T := TX7) (N := 18) hx hb hts mem_X7_begin_0 hown hK hP 0 rfl rfl 16 (by decide) (ow (k := 14) rfl) (fun _ h9 => h9) rfl dX7_begin_65 ?_
  refine lv_iload hx hb dX7_begin_68 (lv_at hl 0 rfl) ?_
  refine lv_iconst (v := 0) hx hb dX7_begin_70 (by decide) ?_
  refine va_zast hx hb hK hP hD hS 1 0 rfl rfl (show vp_in 17 60 by rw [vp_in_iff]; decide) dX7_begin_71 (fun H locs hP hD hS => ?_)
  have hP : va_P (dC, dI) vwP [(q_60, .inr (7, [.int 0, .ref q_1, .int 0, .int 0, .int 1, .int 0, .int 0, .int 0, .ref q_3, .int 0, .int 0, .int 0, .int 0, .long 0, .int 0, .int (-1), .ref q_62, .ref q_63])), (q_62, .inl (cA_64, 60, .inl (upd f_35 (17 : Int32).toNatClampNeg (vp_nar .boolean 0)))), (q_63, .inl (cA_65, 60, .inl f_36)), (q_3, .inr (0, [.int 0, .int 0, .int 0, .int 0, .ref q_4, .ref q_5, .ref q_6, .ref q_7, .ref q_8, .ref q_9, .ref q_10, .ref q_11, .ref q_12, .ref q_13, .ref q_14, .ref q_15, .ref q_16, .ref q_17, .ref q_18])), (q_4, .inl (cA_19, 301, .inl g0_1)), (q_15, .inl (cA_20, 301, .inl g1_2))] H := hP
  have hD : va_D A [(q_60, .inr (7, [.int 0, .ref q_1, .int 0, .int 0, .int 1, .int 0, .int 0, .int 0, .ref q_3, .int 0, .int 0, .int 0, .int 0, .long 0, .int 0, .int (-1), .ref q_62, .ref q_63])), (q_62, .inl (cA_64, 60, .inl (upd f_35 (17 : Int32).toNatClampNeg (vp_nar .boolean 0)))), (q_63, .inl (cA_65, 60, .inl f_36)), (q_3, .inr (0, [.int 0, .int 0, .int 0, .int 0, .ref q_4, .ref q_5, .ref q_6, .ref q_7, .ref q_8, .ref q_9, .ref q_10, .ref q_11, .ref q_12, .ref q_13, .ref q_14, .ref q_15, .ref q_16, .ref q_17, .ref q_18])), (q_4, .inl (cA_19, 301, .inl g0_1)), (q_15, .inl (cA_20, 301, .inl g1_2))] := hD
  generalize (upd f_35 (17 : Int32).toNatClampNeg (vp_nar .boolean 0)) = f_37 at hP hD
  refine lv_aload_n hx hb dX7_begin_72 rfl (lv_at hl 1 rfl) ?_
  refine va_get (D := (dC, dI)) (ci := 7) (v := .ref q_63) (C := RX7) (T := TX7) (N := 18) hx hb hts mem_X7_begin_0 hown hK hP 0 rfl rfl 17 (by decide) (ow (k := 15) rfl) (fun _ h9 => h9) rfl dX7_begin_73 ?_
  refine lv_iload hx hb dX7_begin_76 (lv_at hl 0 rfl) ?_
  refine lv_iconst (v := (-1)) hx hb dX7_begin_78 (by decide) ?_
  refine va_iast hx hb hK hP hD hS 2 1 rfl rfl (show vp_in 17 60 by rw [vp_in_iff]; decide) dX7_begin_79 (fun H locs hP hD hS => ?_)
  have hP : va_P (dC, dI) vwP [(q_60, .inr (7, [.int 0, .ref q_1, .int 0, .int 0, .int 1, .int 0, .int 0, .int 0, .ref q_3, .int 0, .int 0, .int 0, .int 0, .long 0, .int 0, .int (-1), .ref q_62, .ref q_63])), (q_62, .inl (cA_64, 60, .inl f_37)), (q_63, .inl (cA_65, 60, .inl (upd f_36 (17 : Int32).toNatClampNeg (-1)))), (q_3, .inr (0, [.int 0, .int 0, .int 0, .int 0, .ref q_4, .ref q_5, .ref q_6, .ref q_7, .ref q_8, .ref q_9, .ref q_10, .ref q_11, .ref q_12, .ref q_13, .ref q_14, .ref q_15, .ref q_16, .ref q_17, .ref q_18])), (q_4, .inl (cA_19, 301, .inl g0_1)), (q_15, .inl (cA_20, 301, .inl g1_2))] H := hP
  have hD : va_D A [(q_60, .inr (7, [.int 0, .ref q_1, .int 0, .int 0, .int 1, .int 0, .int 0, .int 0, .ref q_3, .int 0, .int 0, .int 0, .int 0, .long 0, .int 0, .int (-1), .ref q_62, .ref q_63])), (q_62, .inl (cA_64, 60, .inl f_37)), (q_63, .inl (cA_65, 60, .inl (upd f_36 (17 : Int32).toNatClampNeg (-1)))), (q_3, .inr (0, [.int 0, .int 0, .int 0, .int 0, .ref q_4, .ref q_5, .ref q_6, .ref q_7, .ref q_8, .ref q_9, .ref q_10, .ref q_11, .ref q_12, .ref q_13, .ref q_14, .ref q_15, .ref q_16, .ref q_17, .ref q_18])), (q_4, .inl (cA_19, 301, .inl g0_1)), (q_15, .inl (cA_20, 301, .inl g1_2))] := hD
  generalize (upd f_36 (17 : Int32).toNatClampNeg (-1)) = f_38 at hP hD
  refine lv_iinc (v := 18) (lv' := [(4, .int 18), (0, .ref q_60), (1, .ref q_1), (2, .int 0), (3, .ref q_3)]) hx hb dX7_begin_80 hl (k := 0) rfl (by decide) (by decide) rfl (fun ls hl => ?_)
  refine lv_goto (tgt := 57) hx hb dX7_begin_83 (by decide) ?_
  refine lv_iload hx hb dX7_begin_57 (lv_at hl 0 rfl) ?_
  refine lv_bipush (v := 60) hx hb dX7_begin_59 (by decide) ?_
  refine lv_icmp_ge (tgt := 86) hx hb dX7_begin_61 (by decide) (fun h9 => absurd h9 (by decide)) (fun _ => ?_)
  refine lv_aload_n hx hb dX7_begin_64 rfl (lv_at hl 1 rfl) ?_
  refine va_get (D := (dC, dI)) (ci := 7) (v := .ref q_62) (C := RX7) (T := TX7) (N := 18) hx hb hts mem_X7_begin_0 hown hK hP 0 rfl rfl 16 (by decide) (ow (k := 14) rfl) (fun _ h9 => h9) rfl dX7_begin_65 ?_
  refine lv_iload hx hb dX7_begin_68 (lv_at hl 0 rfl) ?_
  refine lv_iconst (v := 0) hx hb dX7_begin_70 (by decide) ?_
  refine va_zast hx hb hK hP hD hS 1 0 rfl rfl (show vp_in 18 60 by rw [vp_in_iff]; decide) dX7_begin_71 (fun H locs hP hD hS => ?_)
  have hP : va_P (dC, dI) vwP [(q_60, .inr (7, [.int 0, .ref q_1, .int 0, .int 0, .int 1, .int 0, .int 0, .int 0, .ref q_3, .int 0, .int 0, .int 0, .int 0, .long 0, .int 0, .int (-1), .ref q_62, .ref q_63])), (q_62, .inl (cA_64, 60, .inl (upd f_37 (18 : Int32).toNatClampNeg (vp_nar .boolean 0)))), (q_63, .inl (cA_65, 60, .inl f_38)), (q_3, .inr (0, [.int 0, .int 0, .int 0, .int 0, .ref q_4, .ref q_5, .ref q_6, .ref q_7, .ref q_8, .ref q_9, .ref q_10, .ref q_11, .ref q_12, .ref q_13, .ref q_14, .ref q_15, .ref q_16, .ref q_17, .ref q_18])), (q_4, .inl (cA_19, 301, .inl g0_1)), (q_15, .inl (cA_20, 301, .inl g1_2))] H := hP
  have hD : va_D A [(q_60, .inr (7, [.int 0, .ref q_1, .int 0, .int 0, .int 1, .int 0, .int 0, .int 0, .ref q_3, .int 0, .int 0, .int 0, .int 0, .long 0, .int 0, .int (-1), .ref q_62, .ref q_63])), (q_62, .inl (cA_64, 60, .inl (upd f_37 (18 : Int32).toNatClampNeg (vp_nar .boolean 0)))), (q_63, .inl (cA_65, 60, .inl f_38)), (q_3, .inr (0, [.int 0, .int 0, .int 0, .int 0, .ref q_4, .ref q_5, .ref q_6, .ref q_7, .ref q_8, .ref q_9, .ref q_10, .ref q_11, .ref q_12, .ref q_13, .ref q_14, .ref q_15, .ref q_16, .ref q_17, .ref q_18])), (q_4, .inl (cA_19, 301, .inl g0_1)), (q_15, .inl (cA_20, 301, .inl g1_2))] := hD
  generalize (upd f_37 (18 : Int32).toNatClampNeg (vp_nar .boolean 0)) = f_39 at hP hD
  refine lv_aload_n hx hb dX7_begin_72 rfl (lv_at hl 1 rfl) ?_
  refine va_get (D := (dC, dI)) (ci := 7) (v := .ref q_63) (C := RX7) (T := TX7) (N := 18) hx hb hts mem_X7_begin_0 hown hK hP 0 rfl rfl 17 (by decide) (ow (k := 15) rfl) (fun _ h9 => h9) rfl dX7_begin_73 ?_
  refine lv_iload hx hb dX7_begin_76 (lv_at hl 0 rfl) ?_
  refine lv_iconst (v := (-1)) hx hb dX7_begin_78 (by decide) ?_
  refine va_iast hx hb hK hP hD hS 2 1 rfl rfl (show vp_in 18 60 by rw [vp_in_iff]; decide) dX7_begin_79 (fun H locs hP hD hS => ?_)
  have hP : va_P (dC, dI) vwP [(q_60, .inr (7, [.int 0, .ref q_1, .int 0, .int 0, .int 1, .int 0, .int 0, .int 0, .ref q_3, .int 0, .int 0, .int 0, .int 0, .long 0, .int 0, .int (-1), .ref q_62, .ref q_63])), (q_62, .inl (cA_64, 60, .inl f_39)), (q_63, .inl (cA_65, 60, .inl (upd f_38 (18 : Int32).toNatClampNeg (-1)))), (q_3, .inr (0, [.int 0, .int 0, .int 0, .int 0, .ref q_4, .ref q_5, .ref q_6, .ref q_7, .ref q_8, .ref q_9, .ref q_10, .ref q_11, .ref q_12, .ref q_13, .ref q_14, .ref q_15, .ref q_16, .ref q_17, .ref q_18])), (q_4, .inl (cA_19, 301, .inl g0_1)), (q_15, .inl (cA_20, 301, .inl g1_2))] H := hP
  have hD : va_D A [(q_60, .inr (7, [.int 0, .ref q_1, .int 0, .int 0, .int 1, .int 0, .int 0, .int 0, .ref q_3, .int 0, .int 0, .int 0, .int 0, .long 0, .int 0, .int (-1), .ref q_62, .ref q_63])), (q_62, .inl (cA_64, 60, .inl f_39)), (q_63, .inl (cA_65, 60, .inl (upd f_38 (18 : Int32).toNatClampNeg (-1)))), (q_3, .inr (0, [.int 0, .int 0, .int 0, .int 0, .ref q_4, .ref q_5, .ref q_6, .ref q_7, .ref q_8, .ref q_9, .ref q_10, .ref q_11, .ref q_12, .ref q_13, .ref q_14, .ref q_15, .ref q_16, .ref q_17, .ref q_18])), (q_4, .inl (cA_19, 301, .inl g0_1)), (q_15, .inl (cA_20, 301, .inl g1_2))] := hD
  generalize (upd f_38 (18 : Int32).toNatClampNeg (-1)) = f_40 at hP hD
  refine lv_iinc (v := 19) (lv' := [(4, .int 19), (0, .ref q_60), (1, .ref q_1), (2, .int 0), (3, .ref q_3)]) hx hb dX7_begin_80 hl (k := 0) rfl (by decide) (by decide) rfl (fun ls hl => ?_)
  refine lv_goto (tgt := 57) hx hb dX7_begin_83 (by decide) ?_
  refine lv_iload hx hb dX7_begin_57 (lv_at hl 0 rfl) ?_
  refine lv_bipush (v := 60) hx hb dX7_begin_59 (by decide) ?_
  refine lv_icmp_ge (tgt := 86) hx hb dX7_begin_61 (by decide) (fun h9 => absurd h9 (by decide)) (fun _ => ?_)
  refine lv_aload_n hx hb dX7_begin_64 rfl (lv_at hl 1 rfl) ?_
  refine va_get (D := (dC, dI)) (ci := 7) (v := .ref q_62) (C := RX7) (T := TX7) (N := 18) hx hb hts mem_X7_begin_0 hown hK hP 0 rfl rfl 16 (by decide) (ow (k := 14) rfl) (fun _ h9 => h9) rfl dX7_begin_65 ?_
  refine lv_iload hx hb dX7_begin_68 (lv_at hl 0 rfl) ?_
  refine lv_iconst (v := 0) hx hb dX7_begin_70 (by decide) ?_
  refine va_zast hx hb hK hP hD hS 1 0 rfl rfl (show vp_in 19 60 by rw [vp_in_iff]; decide) dX7_begin_71 (fun H locs hP hD hS => ?_)
  have hP : va_P (dC, dI) vwP [(q_60, .inr (7, [.int 0, .ref q_1, .int 0, .int 0, .int 1, .int 0, .int 0, .int 0, .ref q_3, .int 0, .int 0, .int 0, .int 0, .long 0, .int 0, .int (-1), .ref q_62, .ref q_63])), (q_62, .inl (cA_64, 60, .inl (upd f_39 (19 : Int32).toNatClampNeg (vp_nar .boolean 0)))), (q_63, .inl (cA_65, 60, .inl f_40)), (q_3, .inr (0, [.int 0, .int 0, .int 0, .int 0, .ref q_4, .ref q_5, .ref q_6, .ref q_7, .ref q_8, .ref q_9, .ref q_10, .ref q_11, .ref q_12, .ref q_13, .ref q_14, .ref q_15, .ref q_16, .ref q_17, .ref q_18])), (q_4, .inl (cA_19, 301, .inl g0_1)), (q_15, .inl (cA_20, 301, .inl g1_2))] H := hP
  have hD : va_D A [(q_60, .inr (7, [.int 0, .ref q_1, .int 0, .int 0, .int 1, .int 0, .int 0, .int 0, .ref q_3, .int 0, .int 0, .int 0, .int 0, .long 0, .int 0, .int (-1), .ref q_62, .ref q_63])), (q_62, .inl (cA_64, 60, .inl (upd f_39 (19 : Int32).toNatClampNeg (vp_nar .boolean 0)))), (q_63, .inl (cA_65, 60, .inl f_40)), (q_3, .inr (0, [.int 0, .int 0, .int 0, .int 0, .ref q_4, .ref q_5, .ref q_6, .ref q_7, .ref q_8, .ref q_9, .ref q_10, .ref q_11, .ref q_12, .ref q_13, .ref q_14, .ref q_15, .ref q_16, .ref q_17, .ref q_18])), (q_4, .inl (cA_19, 301, .inl g0_1)), (q_15, .inl (cA_20, 301, .inl g1_2))] := hD
  generalize (upd f_39 (19 : Int32).toNatClampNeg (vp_nar .boolean 0)) = f_41 at hP hD
  refine lv_aload_n hx hb dX7_begin_72 rfl (lv_at hl 1 rfl) ?_
  refine va_get (D := (dC, dI)) (ci := 7) (v := .ref q_63) (C := RX7) (T := TX7) (N := 18) hx hb hts mem_X7_begin_0 hown hK hP 0 rfl rfl 17 (by decide) (ow (k := 15) rfl) (fun _ h9 => h9) rfl dX7_begin_73 ?_
  refine lv_iload hx hb dX7_begin_76 (lv_at hl 0 rfl) ?_
  refine lv_iconst (v := (-1)) hx hb dX7_begin_78 (by decide) ?_
  refine va_iast hx hb hK hP hD hS 2 1 rfl rfl (show vp_in 19 60 by rw [vp_in_iff]; decide) dX7_begin_79 (fun H locs hP hD hS => ?_)
  have hP : va_P (dC, dI) vwP [(q_60, .inr (7, [.int 0, .ref q_1, .int 0, .int 0, .int 1, .int 0, .int 0, .int 0, .ref q_3, .int 0, .int 0, .int 0, .int 0, .long 0, .int 0, .int (-1), .ref q_62, .ref q_63])), (q_62, .inl (cA_64, 60, .inl f_41)), (q_63, .inl (cA_65, 60, .inl (upd f_40 (19 : Int32).toNatClampNeg (-1)))), (q_3, .inr (0, [.int 0, .int 0, .int 0, .int 0, .ref q_4, .ref q_5, .ref q_6, .ref q_7, .ref q_8, .ref q_9, .ref q_10, .ref q_11, .ref q_12, .ref q_13, .ref q_14, .ref q_15, .ref q_16, .ref q_17, .ref q_18])), (q_4, .inl (cA_19, 301, .inl g0_1)), (q_15, .inl (cA_20, 301, .inl g1_2))] H := hP
  have hD : va_D A [(q_60, .inr (7, [.int 0, .ref q_1, .int 0, .int 0, .int 1, .int 0, .int 0, .int 0, .ref q_3, .int 0, .int 0, .int 0, .int 0, .long 0, .int 0, .int (-1), .ref q_62, .ref q_63])), (q_62, .inl (cA_64, 60, .inl f_41)), (q_63, .inl (cA_65, 60, .inl (upd f_40 (19 : Int32).toNatClampNeg (-1)))), (q_3, .inr (0, [.int 0, .int 0, .int 0, .int 0, .ref q_4, .ref q_5, .ref q_6, .ref q_7, .ref q_8, .ref q_9, .ref q_10, .ref q_11, .ref q_12, .ref q_13, .ref q_14, .ref q_15, .ref q_16, .ref q_17, .ref q_18])), (q_4, .inl (cA_19, 301, .inl g0_1)), (q_15, .inl (cA_20, 301, .inl g1_2))] := hD
  generalize (upd f_40 (19 : Int32).toNatClampNeg (-1)) = f_42 at hP hD
  refine lv_iinc (v := 20) (lv' := [(4, .int 20), (0, .ref q_60), (1, .ref q_1), (2, .int 0), (3, .ref q_3)]) hx hb dX7_begin_80 hl (k := 0) rfl (by decide) (by decide) rfl (fun ls hl => ?_)
  refine lv_goto (tgt := 57) hx hb dX7_begin_83 (by decide) ?_
  refine lv_iload hx hb dX7_begin_57 (lv_at hl 0 rfl) ?_
  refine lv_bipush (v := 60) hx hb dX7_begin_59 (by decide) ?_
  refine lv_icmp_ge (tgt := 86) hx hb dX7_begin_61 (by decide) (fun h9 => absurd h9 (by decide)) (fun _ => ?_)
  refine lv_aload_n hx hb dX7_begin_64 rfl (lv_at hl 1 rfl) ?_
  refine va_get (D := (dC, dI)) (ci := 7) (v := .ref q_62) (C := RX7) (T := TX7) (N := 18) hx hb hts mem_X7_begin_0 hown hK hP 0 rfl rfl 16 (by decide) (ow (k := 14) rfl) (fun _ h9 => h9) rfl dX7_begin_65 ?_
  refine lv_iload hx hb dX7_begin_68 (lv_at hl 0 rfl) ?_
  refine lv_iconst (v := 0) hx hb dX7_begin_70 (by decide) ?_
  refine va_zast hx hb hK hP hD hS 1 0 rfl rfl (show vp_in 20 60 by rw [vp_in_iff]; decide) dX7_begin_71 (fun H locs hP hD hS => ?_)
  have hP : va_P (dC, dI) vwP [(q_60, .inr (7, [.int 0, .ref q_1, .int 0, .int 0, .int 1, .int 0, .int 0, .int 0, .ref q_3, .int 0, .int 0, .int 0, .int 0, .long 0, .int 0, .int (-1), .ref q_62, .ref q_63])), (q_62, .inl (cA_64, 60, .inl (upd f_41 (20 : Int32).toNatClampNeg (vp_nar .boolean 0)))), (q_63, .inl (cA_65, 60, .inl f_42)), (q_3, .inr (0, [.int 0, .int 0, .int 0, .int 0, .ref q_4, .ref q_5, .ref q_6, .ref q_7, .ref q_8, .ref q_9, .ref q_10, .ref q_11, .ref q_12, .ref q_13, .ref q_14, .ref q_15, .ref q_16, .ref q_17, .ref q_18])), (q_4, .inl (cA_19, 301, .inl g0_1)), (q_15, .inl (cA_20, 301, .inl g1_2))] H := hP
  have hD : va_D A [(q_60, .inr (7, [.int 0, .ref q_1, .int 0, .int 0, .int 1, .int 0, .int 0, .int 0, .ref q_3, .int 0, .int 0, .int 0, .int 0, .long 0, .int 0, .int (-1), .ref q_62, .ref q_63])), (q_62, .inl (cA_64, 60, .inl (upd f_41 (20 : Int32).toNatClampNeg (vp_nar .boolean 0)))), (q_63, .inl (cA_65, 60, .inl f_42)), (q_3, .inr (0, [.int 0, .int 0, .int 0, .int 0, .ref q_4, .ref q_5, .ref q_6, .ref q_7, .ref q_8, .ref q_9, .ref q_10, .ref q_11, .ref q_12, .ref q_13, .ref q_14, .ref q_15, .ref q_16, .ref q_17, .ref q_18])), (q_4, .inl (cA_19, 301, .inl g0_1)), (q_15, .inl (cA_20, 301, .inl g1_2))] := hD
  generalize (upd f_41 (20 : Int32).toNatClampNeg (vp_nar .boolean 0)) = f_43 at hP hD
  refine lv_aload_n hx hb dX7_begin_72 rfl (lv_at hl 1 rfl) ?_
  refine va_get (D := (dC, dI)) (ci := 7) (v := .ref q_63) (C := RX7) (T := TX7) (N := 18) hx hb hts mem_X7_begin_0 hown hK hP 0 rfl rfl 17 (by decide) (ow (k := 15) rfl) (fun _ h9 => h9) rfl dX7_begin_73 ?_
  refine lv_iload hx hb dX7_begin_76 (lv_at hl 0 rfl) ?_
  refine lv_iconst (v := (-1)) hx hb dX7_begin_78 (by decide) ?_
  refine va_iast hx hb hK hP hD hS 2 1 rfl rfl (show vp_in 20 60 by rw [vp_in_iff]; decide) dX7_begin_79 (fun H locs hP hD hS => ?_)
  have hP : va_P (dC, dI) vwP [(q_60, .inr (7, [.int 0, .ref q_1, .int 0, .int 0, .int 1, .int 0, .int 0, .int 0, .ref q_3, .int 0, .int 0, .int 0, .int 0, .long 0, .int 0, .int (-1), .ref q_62, .ref q_63])), (q_62, .inl (cA_64, 60, .inl f_43)), (q_63, .inl (cA_65, 60, .inl (upd f_42 (20 : Int32).toNatClampNeg (-1)))), (q_3, .inr (0, [.int 0, .int 0, .int 0, .int 0, .ref q_4, .ref q_5, .ref q_6, .ref q_7, .ref q_8, .ref q_9, .ref q_10, .ref q_11, .ref q_12, .ref q_13, .ref q_14, .ref q_15, .ref q_16, .ref q_17, .ref q_18])), (q_4, .inl (cA_19, 301, .inl g0_1)), (q_15, .inl (cA_20, 301, .inl g1_2))] H := hP
  have hD : va_D A [(q_60, .inr (7, [.int 0, .ref q_1, .int 0, .int 0, .int 1, .int 0, .int 0, .int 0, .ref q_3, .int 0, .int 0, .int 0, .int 0, .long 0, .int 0, .int (-1), .ref q_62, .ref q_63])), (q_62, .inl (cA_64, 60, .inl f_43)), (q_63, .inl (cA_65, 60, .inl (upd f_42 (20 : Int32).toNatClampNeg (-1)))), (q_3, .inr (0, [.int 0, .int 0, .int 0, .int 0, .ref q_4, .ref q_5, .ref q_6, .ref q_7, .ref q_8, .ref q_9, .ref q_10, .ref q_11, .ref q_12, .ref q_13, .ref q_14, .ref q_15, .ref q_16, .ref q_17, .ref q_18])), (q_4, .inl (cA_19, 301, .inl g0_1)), (q_15, .inl (cA_20, 301, .inl g1_2))] := hD
  generalize (upd f_42 (20 : Int32).toNatClampNeg (-1)) = f_44 at hP hD
  refine lv_iinc (v := 21) (lv' := [(4, .int 21), (0, .ref q_60), (1, .ref q_1), (2, .int 0), (3, .ref q_3)]) hx hb dX7_begin_80 hl (k := 0) rfl (by decide) (by decide) rfl (fun ls hl => ?_)
  refine lv_goto (tgt := 57) hx hb dX7_begin_83 (by decide) ?_
  refine lv_iload hx hb dX7_begin_57 (lv_at hl 0 rfl) ?_
  refine lv_bipush (v := 60) hx hb dX7_begin_59 (by decide) ?_
  refine lv_icmp_ge (tgt := 86) hx hb dX7_begin_61 (by decide) (fun h9 => absurd h9 (by decide)) (fun _ => ?_)
  refine lv_aload_n hx hb dX7_begin_64 rfl (lv_at hl 1 rfl) ?_
  refine va_get (D := (dC, dI)) (ci := 7) (v := .ref q_62) (C := RX7) (T := TX7) (N := 18) hx hb hts mem_X7_begin_0 hown hK hP 0 rfl rfl 16 (by decide) (ow (k := 14) rfl) (fun _ h9 => h9) rfl dX7_begin_65 ?_
  refine lv_iload hx hb dX7_begin_68 (lv_at hl 0 rfl) ?_
  refine lv_iconst (v := 0) hx hb dX7_begin_70 (by decide) ?_
  refine va_zast hx hb hK hP hD hS 1 0 rfl rfl (show vp_in 21 60 by rw [vp_in_iff]; decide) dX7_begin_71 (fun H locs hP hD hS => ?_)
  have hP : va_P (dC, dI) vwP [(q_60, .inr (7, [.int 0, .ref q_1, .int 0, .int 0, .int 1, .int 0, .int 0, .int 0, .ref q_3, .int 0, .int 0, .int 0, .int 0, .long 0, .int 0, .int (-1), .ref q_62, .ref q_63])), (q_62, .inl (cA_64, 60, .inl (upd f_43 (21 : Int32).toNatClampNeg (vp_nar .boolean 0)))), (q_63, .inl (cA_65, 60, .inl f_44)), (q_3, .inr (0, [.int 0, .int 0, .int 0, .int 0, .ref q_4, .ref q_5, .ref q_6, .ref q_7, .ref q_8, .ref q_9, .ref q_10, .ref q_11, .ref q_12, .ref q_13, .ref q_14, .ref q_15, .ref q_16, .ref q_17, .ref q_18])), (q_4, .inl (cA_19, 301, .inl g0_1)), (q_15, .inl (cA_20, 301, .inl g1_2))] H := hP
  have hD : va_D A [(q_60, .inr (7, [.int 0, .ref q_1, .int 0, .int 0, .int 1, .int 0, .int 0, .int 0, .ref q_3, .int 0, .int 0, .int 0, .int 0, .long 0, .int 0, .int (-1), .ref q_62, .ref q_63])), (q_62, .inl (cA_64, 60, .inl (upd f_43 (21 : Int32).toNatClampNeg (vp_nar .boolean 0)))), (q_63, .inl (cA_65, 60, .inl f_44)), (q_3, .inr (0, [.int 0, .int 0, .int 0, .int 0, .ref q_4, .ref q_5, .ref q_6, .ref q_7, .ref q_8, .ref q_9, .ref q_10, .ref q_11, .ref q_12, .ref q_13, .ref q_14, .ref q_15, .ref q_16, .ref q_17, .ref q_18])), (q_4, .inl (cA_19, 301, .inl g0_1)), (q_15, .inl (cA_20, 301, .inl g1_2))] := hD
  generalize (upd f_43 (21 : Int32).toNatClampNeg (vp_nar .boolean 0)) = f_45 at hP hD
  refine lv_aload_n hx hb dX7_begin_72 rfl (lv_at hl 1 rfl) ?_
  refine va_get (D := (dC, dI)) (ci := 7) (v := .ref q_63) (C := RX7) (T := TX7) (N := 18) hx hb hts mem_X7_begin_0 hown hK hP 0 rfl rfl 17 (by decide) (ow (k := 15) rfl) (fun _ h9 => h9) rfl dX7_begin_73 ?_
  refine lv_iload hx hb dX7_begin_76 (lv_at hl 0 rfl) ?_
  refine lv_iconst (v := (-1)) hx hb dX7_begin_78 (by decide) ?_
  refine va_iast hx hb hK hP hD hS 2 1 rfl rfl (show vp_in 21 60 by rw [vp_in_iff]; decide) dX7_begin_79 (fun H locs hP hD hS => ?_)
  have hP : va_P (dC, dI) vwP [(q_60, .inr (7, [.int 0, .ref q_1, .int 0, .int 0, .int 1, .int 0, .int 0, .int 0, .ref q_3, .int 0, .int 0, .int 0, .int 0, .long 0, .int 0, .int (-1), .ref q_62, .ref q_63])), (q_62, .inl (cA_64, 60, .inl f_45)), (q_63, .inl (cA_65, 60, .inl (upd f_44 (21 : Int32).toNatClampNeg (-1)))), (q_3, .inr (0, [.int 0, .int 0, .int 0, .int 0, .ref q_4, .ref q_5, .ref q_6, .ref q_7, .ref q_8, .ref q_9, .ref q_10, .ref q_11, .ref q_12, .ref q_13, .ref q_14, .ref q_15, .ref q_16, .ref q_17, .ref q_18])), (q_4, .inl (cA_19, 301, .inl g0_1)), (q_15, .inl (cA_20, 301, .inl g1_2))] H := hP
  have hD : va_D A [(q_60, .inr (7, [.int 0, .ref q_1, .int 0, .int 0, .int 1, .int 0, .int 0, .int 0, .ref q_3, .int 0, .int 0, .int 0, .int 0, .long 0, .int 0, .int (-1), .ref q_62, .ref q_63])), (q_62, .inl (cA_64, 60, .inl f_45)), (q_63, .inl (cA_65, 60, .inl (upd f_44 (21 : Int32).toNatClampNeg (-1)))), (q_3, .inr (0, [.int 0, .int 0, .int 0, .int 0, .ref q_4, .ref q_5, .ref q_6, .ref q_7, .ref q_8, .ref q_9, .ref q_10, .ref q_11, .ref q_12, .ref q_13, .ref q_14, .ref q_15, .ref q_16, .ref q_17, .ref q_18])), (q_4, .inl (cA_19, 301, .inl g0_1)), (q_15, .inl (cA_20, 301, .inl g1_2))] := hD
  generalize (upd f_44 (21 : Int32).toNatClampNeg (-1)) = f_46 at hP hD
  refine lv_iinc (v := 22) (lv' := [(4, .int 22), (0, .ref q_60), (1, .ref q_1), (2, .int 0), (3, .ref q_3)]) hx hb dX7_begin_80 hl (k := 0) rfl (by decide) (by decide) rfl (fun ls hl => ?_)
  refine lv_goto (tgt := 57) hx hb dX7_begin_83 (by decide) ?_
  refine lv_iload hx hb dX7_begin_57 (lv_at hl 0 rfl) ?_
  refine lv_bipush (v := 60) hx hb dX7_begin_59 (by decide) ?_
  refine lv_icmp_ge (tgt := 86) hx hb dX7_begin_61 (by decide) (fun h9 => absurd h9 (by decide)) (fun _ => ?_)
  refine lv_aload_n hx hb dX7_begin_64 rfl (lv_at hl 1 rfl) ?_
  refine va_get (D := (dC, dI)) (ci := 7) (v := .ref q_62) (C := RX7) (T := TX7) (N := 18) hx hb hts mem_X7_begin_0 hown hK hP 0 rfl rfl 16 (by decide) (ow (k := 14) rfl) (fun _ h9 => h9) rfl dX7_begin_65 ?_
  refine lv_iload hx hb dX7_begin_68 (lv_at hl 0 rfl) ?_
  refine lv_iconst (v := 0) hx hb dX7_begin_70 (by decide) ?_
  refine va_zast hx hb hK hP hD hS 1 0 rfl rfl (show vp_in 22 60 by rw [vp_in_iff]; decide) dX7_begin_71 (fun H locs hP hD hS => ?_)
  have hP : va_P (dC, dI) vwP [(q_60, .inr (7, [.int 0, .ref q_1, .int 0, .int 0, .int 1, .int 0, .int 0, .int 0, .ref q_3, .int 0, .int 0, .int 0, .int 0, .long 0, .int 0, .int (-1), .ref q_62, .ref q_63])), (q_62, .inl (cA_64, 60, .inl (upd f_45 (22 : Int32).toNatClampNeg (vp_nar .boolean 0)))), (q_63, .inl (cA_65, 60, .inl f_46)), (q_3, .inr (0, [.int 0, .int 0, .int 0, .int 0, .ref q_4, .ref q_5, .ref q_6, .ref q_7, .ref q_8, .ref q_9, .ref q_10, .ref q_11, .ref q_12, .ref q_13, .ref q_14, .ref q_15, .ref q_16, .ref q_17, .ref q_18])), (q_4, .inl (cA_19, 301, .inl g0_1)), (q_15, .inl (cA_20, 301, .inl g1_2))] H := hP
  have hD : va_D A [(q_60, .inr (7, [.int 0, .ref q_1, .int 0, .int 0, .int 1, .int 0, .int 0, .int 0, .ref q_3, .int 0, .int 0, .int 0, .int 0, .long 0, .int 0, .int (-1), .ref q_62, .ref q_63])), (q_62, .inl (cA_64, 60, .inl (upd f_45 (22 : Int32).toNatClampNeg (vp_nar .boolean 0)))), (q_63, .inl (cA_65, 60, .inl f_46)), (q_3, .inr (0, [.int 0, .int 0, .int 0, .int 0, .ref q_4, .ref q_5, .ref q_6, .ref q_7, .ref q_8, .ref q_9, .ref q_10, .ref q_11, .ref q_12, .ref q_13, .ref q_14, .ref q_15, .ref q_16, .ref q_17, .ref q_18])), (q_4, .inl (cA_19, 301, .inl g0_1)), (q_15, .inl (cA_20, 301, .inl g1_2))] := hD
  generalize (upd f_45 (22 : Int32).toNatClampNeg (vp_nar .boolean 0)) = f_47 at hP hD
  refine lv_aload_n hx hb dX7_begin_72 rfl (lv_at hl 1 rfl) ?_
  refine va_get (D := (dC, dI)) (ci := 7) (v := .ref q_63) (C := RX7) (T := TX7) (N := 18) hx hb hts mem_X7_begin_0 hown hK hP 0 rfl rfl 17 (by decide) (ow (k := 15) rfl) (fun _ h9 => h9) rfl dX7_begin_73 ?_
  refine lv_iload hx hb dX7_begin_76 (lv_at hl 0 rfl) ?_
  refine lv_iconst (v := (-1)) hx hb dX7_begin_78 (by decide) ?_
  refine va_iast hx hb hK hP hD hS 2 1 rfl rfl (show vp_in 22 60 by rw [vp_in_iff]; decide) dX7_begin_79 (fun H locs hP hD hS => ?_)
  have hP : va_P (dC, dI) vwP [(q_60, .inr (7, [.int 0, .ref q_1, .int 0, .int 0, .int 1, .int 0, .int 0, .int 0, .ref q_3, .int 0, .int 0, .int 0, .int 0, .long 0, .int 0, .int (-1), .ref q_62, .ref q_63])), (q_62, .inl (cA_64, 60, .inl f_47)), (q_63, .inl (cA_65, 60, .inl (upd f_46 (22 : Int32).toNatClampNeg (-1)))), (q_3, .inr (0, [.int 0, .int 0, .int 0, .int 0, .ref q_4, .ref q_5, .ref q_6, .ref q_7, .ref q_8, .ref q_9, .ref q_10, .ref q_11, .ref q_12, .ref q_13, .ref q_14, .ref q_15, .ref q_16, .ref q_17, .ref q_18])), (q_4, .inl (cA_19, 301, .inl g0_1)), (q_15, .inl (cA_20, 301, .inl g1_2))] H := hP
  have hD : va_D A [(q_60, .inr (7, [.int 0, .ref q_1, .int 0, .int 0, .int 1, .int 0, .int 0, .int 0, .ref q_3, .int 0, .int 0, .int 0, .int 0, .long 0, .int 0, .int (-1), .ref q_62, .ref q_63])), (q_62, .inl (cA_64, 60, .inl f_47)), (q_63, .inl (cA_65, 60, .inl (upd f_46 (22 : Int32).toNatClampNeg (-1)))), (q_3, .inr (0, [.int 0, .int 0, .int 0, .int 0, .ref q_4, .ref q_5, .ref q_6, .ref q_7, .ref q_8, .ref q_9, .ref q_10, .ref q_11, .ref q_12, .ref q_13, .ref q_14, .ref q_15, .ref q_16, .ref q_17, .ref q_18])), (q_4, .inl (cA_19, 301, .inl g0_1)), (q_15, .inl (cA_20, 301, .inl g1_2))] := hD
  generalize (upd f_46 (22 : Int32).toNatClampNeg (-1)) = f_48 at hP hD
  refine lv_iinc (v := 23) (lv' := [(4, .int 23), (0, .ref q_60), (1, .ref q_1), (2, .int 0), (3, .ref q_3)]) hx hb dX7_begin_80 hl (k := 0) rfl (by decide) (by decide) rfl (fun ls hl => ?_)
  refine lv_goto (tgt := 57) hx hb dX7_begin_83 (by decide) ?_
  refine lv_iload hx hb dX7_begin_57 (lv_at hl 0 rfl) ?_
  refine lv_bipush (v := 60) hx hb dX7_begin_59 (by decide) ?_
  refine lv_icmp_ge (tgt := 86) hx hb dX7_begin_61 (by decide) (fun h9 => absurd h9 (by decide)) (fun _ => ?_)
  refine lv_aload_n hx hb dX7_begin_64 rfl (lv_at hl 1 rfl) ?_
  refine va_get (D := (dC, dI)) (ci := 7) (v := .ref q_62) (C := RX7) (T := TX7) (N := 18) hx hb hts mem_X7_begin_0 hown hK hP 0 rfl rfl 16 (by decide) (ow (k := 14) rfl) (fun _ h9 => h9) rfl dX7_begin_65 ?_
  refine lv_iload hx hb dX7_begin_68 (lv_at hl 0 rfl) ?_
  refine lv_iconst (v := 0) hx hb dX7_begin_70 (by decide) ?_
  refine va_zast hx hb hK hP hD hS 1 0 rfl rfl (show vp_in 23 60 by rw [vp_in_iff]; decide) dX7_begin_71 (fun H locs hP hD hS => ?_)
  have hP : va_P (dC, dI) vwP [(q_60, .inr (7, [.int 0, .ref q_1, .int 0, .int 0, .int 1, .int 0, .int 0, .int 0, .ref q_3, .int 0, .int 0, .int 0, .int 0, .long 0, .int 0, .int (-1), .ref q_62, .ref q_63])), (q_62, .inl (cA_64, 60, .inl (upd f_47 (23 : Int32).toNatClampNeg (vp_nar .boolean 0)))), (q_63, .inl (cA_65, 60, .inl f_48)), (q_3, .inr (0, [.int 0, .int 0, .int 0, .int 0, .ref q_4, .ref q_5, .ref q_6, .ref q_7, .ref q_8, .ref q_9, .ref q_10, .ref q_11, .ref q_12, .ref q_13, .ref q_14, .ref q_15, .ref q_16, .ref q_17, .ref q_18])), (q_4, .inl (cA_19, 301, .inl g0_1)), (q_15, .inl (cA_20, 301, .inl g1_2))] H := hP
  have hD : va_D A [(q_60, .inr (7, [.int 0, .ref q_1, .int 0, .int 0, .int 1, .int 0, .int 0, .int 0, .ref q_3, .int 0, .int 0, .int 0, .int 0, .long 0, .int 0, .int (-1), .ref q_62, .ref q_63])), (q_62, .inl (cA_64, 60, .inl (upd f_47 (23 : Int32).toNatClampNeg (vp_nar .boolean 0)))), (q_63, .inl (cA_65, 60, .inl f_48)), (q_3, .inr (0, [.int 0, .int 0, .int 0, .int 0, .ref q_4, .ref q_5, .ref q_6, .ref q_7, .ref q_8, .ref q_9, .ref q_10, .ref q_11, .ref q_12, .ref q_13, .ref q_14, .ref q_15, .ref q_16, .ref q_17, .ref q_18])), (q_4, .inl (cA_19, 301, .inl g0_1)), (q_15, .inl (cA_20, 301, .inl g1_2))] := hD
  generalize (upd f_47 (23 : Int32).toNatClampNeg (vp_nar .boolean 0)) = f_49 at hP hD
  refine lv_aload_n hx hb dX7_begin_72 rfl (lv_at hl 1 rfl) ?_
  refine va_get (D := (dC, dI)) (ci := 7) (v := .ref q_63) (C := RX7) (T := TX7) (N := 18) hx hb hts mem_X7_begin_0 hown hK hP 0 rfl rfl 17 (by decide) (ow (k := 15) rfl) (fun _ h9 => h9) rfl dX7_begin_73 ?_
  refine lv_iload hx hb dX7_begin_76 (lv_at hl 0 rfl) ?_
  refine lv_iconst (v := (-1)) hx hb dX7_begin_78 (by decide) ?_
  refine va_iast hx hb hK hP hD hS 2 1 rfl rfl (show vp_in 23 60 by rw [vp_in_iff]; decide) dX7_begin_79 (fun H locs hP hD hS => ?_)
  have hP : va_P (dC, dI) vwP [(q_60, .inr (7, [.int 0, .ref q_1, .int 0, .int 0, .int 1, .int 0, .int 0, .int 0, .ref q_3, .int 0, .int 0, .int 0, .int 0, .long 0, .int 0, .int (-1), .ref q_62, .ref q_63])), (q_62, .inl (cA_64, 60, .inl f_49)), (q_63, .inl (cA_65, 60, .inl (upd f_48 (23 : Int32).toNatClampNeg (-1)))), (q_3, .inr (0, [.int 0, .int 0, .int 0, .int 0, .ref q_4, .ref q_5, .ref q_6, .ref q_7, .ref q_8, .ref q_9, .ref q_10, .ref q_11, .ref q_12, .ref q_13, .ref q_14, .ref q_15, .ref q_16, .ref q_17, .ref q_18])), (q_4, .inl (cA_19, 301, .inl g0_1)), (q_15, .inl (cA_20, 301, .inl g1_2))] H := hP
  have hD : va_D A [(q_60, .inr (7, [.int 0, .ref q_1, .int 0, .int 0, .int 1, .int 0, .int 0, .int 0, .ref q_3, .int 0, .int 0, .int 0, .int 0, .long 0, .int 0, .int (-1), .ref q_62, .ref q_63])), (q_62, .inl (cA_64, 60, .inl f_49)), (q_63, .inl (cA_65, 60, .inl (upd f_48 (23 : Int32).toNatClampNeg (-1)))), (q_3, .inr (0, [.int 0, .int 0, .int 0, .int 0, .ref q_4, .ref q_5, .ref q_6, .ref q_7, .ref q_8, .ref q_9, .ref q_10, .ref q_11, .ref q_12, .ref q_13, .ref q_14, .ref q_15, .ref q_16, .ref q_17, .ref q_18])), (q_4, .inl (cA_19, 301, .inl g0_1)), (q_15, .inl (cA_20, 301, .inl g1_2))] := hD
  generalize (upd f_48 (23 : Int32).toNatClampNeg (-1)) = f_50 at hP hD
  refine lv_iinc (v := 24) (lv' := [(4, .int 24), (0, .ref q_60), (1, .ref q_1), (2, .int 0), (3, .ref q_3)]) hx hb dX7_begin_80 hl (k := 0) rfl (by decide) (by decide) rfl (fun ls hl => ?_)
  refine lv_goto (tgt := 57) hx hb dX7_begin_83 (by decide) ?_
  refine lv_iload hx hb dX7_begin_57 (lv_at hl 0 rfl) ?_
  refine lv_bipush (v := 60) hx hb dX7_begin_59 (by decide) ?_
  refine lv_icmp_ge (tgt := 86) hx hb dX7_begin_61 (by decide) (fun h9 => absurd h9 (by decide)) (fun _ => ?_)
  refine lv_aload_n hx hb dX7_begin_64 rfl (lv_at hl 1 rfl) ?_
  refine va_get (D := (dC, dI)) (ci := 7) (v := .ref q_62) (C := RX7) (T := TX7) (N := 18) hx hb hts mem_X7_begin_0 hown hK hP 0 rfl rfl 16 (by decide) (ow (k := 14) rfl) (fun _ h9 => h9) rfl dX7_begin_65 ?_
  refine lv_iload hx hb dX7_begin_68 (lv_at hl 0 rfl) ?_
  refine lv_iconst (v := 0) hx hb dX7_begin_70 (by decide) ?_
  refine va_zast hx hb hK hP hD hS 1 0 rfl rfl (show vp_in 24 60 by rw [vp_in_iff]; decide) dX7_begin_71 (fun H locs hP hD hS => ?_)
  have hP : va_P (dC, dI) vwP [(q_60, .inr (7, [.int 0, .ref q_1, .int 0, .int 0, .int 1, .int 0, .int 0, .int 0, .ref q_3, .int 0, .int 0, .int 0, .int 0, .long 0, .int 0, .int (-1), .ref q_62, .ref q_63])), (q_62, .inl (cA_64, 60, .inl (upd f_49 (24 : Int32).toNatClampNeg (vp_nar .boolean 0)))), (q_63, .inl (cA_65, 60, .inl f_50)), (q_3, .inr (0, [.int 0, .int 0, .int 0, .int 0, .ref q_4, .ref q_5, .ref q_6, .ref q_7, .ref q_8, .ref q_9, .ref q_10, .ref q_11, .ref q_12, .ref q_13, .ref q_14, .ref q_15, .ref q_16, .ref q_17, .ref q_18])), (q_4, .inl (cA_19, 301, .inl g0_1)), (q_15, .inl (cA_20, 301, .inl g1_2))] H := hP
  have hD : va_D A [(q_60, .inr (7, [.int 0, .ref q_1, .int 0, .int 0, .int 1, .int 0, .int 0, .int 0, .ref q_3, .int 0, .int 0, .int 0, .int 0, .long 0, .int 0, .int (-1), .ref q_62, .ref q_63])), (q_62, .inl (cA_64, 60, .inl (upd f_49 (24 : Int32).toNatClampNeg (vp_nar .boolean 0)))), (q_63, .inl (cA_65, 60, .inl f_50)), (q_3, .inr (0, [.int 0, .int 0, .int 0, .int 0, .ref q_4, .ref q_5, .ref q_6, .ref q_7, .ref q_8, .ref q_9, .ref q_10, .ref q_11, .ref q_12, .ref q_13, .ref q_14, .ref q_15, .ref q_16, .ref q_17, .ref q_18])), (q_4, .inl (cA_19, 301, .inl g0_1)), (q_15, .inl (cA_20, 301, .inl g1_2))] := hD
  generalize (upd f_49 (24 : Int32).toNatClampNeg (vp_nar .boolean 0)) = f_51 at hP hD
  refine lv_aload_n hx hb dX7_begin_72 rfl (lv_at hl 1 rfl) ?_
  refine va_get (D := (dC, dI)) (ci := 7) (v := .ref q_63) (C := RX7) (T := TX7) (N := 18) hx hb hts mem_X7_begin_0 hown hK hP 0 rfl rfl 17 (by decide) (ow (k := 15) rfl) (fun _ h9 => h9) rfl dX7_begin_73 ?_
  refine lv_iload hx hb dX7_begin_76 (lv_at hl 0 rfl) ?_
  refine lv_iconst (v := (-1)) hx hb dX7_begin_78 (by decide) ?_
  refine va_iast hx hb hK hP hD hS 2 1 rfl rfl (show vp_in 24 60 by rw [vp_in_iff]; decide) dX7_begin_79 (fun H locs hP hD hS => ?_)
  have hP : va_P (dC, dI) vwP [(q_60, .inr (7, [.int 0, .ref q_1, .int 0, .int 0, .int 1, .int 0, .int 0, .int 0, .ref q_3, .int 0, .int 0, .int 0, .int 0, .long 0, .int 0, .int (-1), .ref q_62, .ref q_63])), (q_62, .inl (cA_64, 60, .inl f_51)), (q_63, .inl (cA_65, 60, .inl (upd f_50 (24 : Int32).toNatClampNeg (-1)))), (q_3, .inr (0, [.int 0, .int 0, .int 0, .int 0, .ref q_4, .ref q_5, .ref q_6, .ref q_7, .ref q_8, .ref q_9, .ref q_10, .ref q_11, .ref q_12, .ref q_13, .ref q_14, .ref q_15, .ref q_16, .ref q_17, .ref q_18])), (q_4, .inl (cA_19, 301, .inl g0_1)), (q_15, .inl (cA_20, 301, .inl g1_2))] H := hP
  have hD : va_D A [(q_60, .inr (7, [.int 0, .ref q_1, .int 0, .int 0, .int 1, .int 0, .int 0, .int 0, .ref q_3, .int 0, .int 0, .int 0, .int 0, .long 0, .int 0, .int (-1), .ref q_62, .ref q_63])), (q_62, .inl (cA_64, 60, .inl f_51)), (q_63, .inl (cA_65, 60, .inl (upd f_50 (24 : Int32).toNatClampNeg (-1)))), (q_3, .inr (0, [.int 0, .int 0, .int 0, .int 0, .ref q_4, .ref q_5, .ref q_6, .ref q_7, .ref q_8, .ref q_9, .ref q_10, .ref q_11, .ref q_12, .ref q_13, .ref q_14, .ref q_15, .ref q_16, .ref q_17, .ref q_18])), (q_4, .inl (cA_19, 301, .inl g0_1)), (q_15, .inl (cA_20, 301, .inl g1_2))] := hD
  generalize (upd f_50 (24 : Int32).toNatClampNeg (-1)) = f_52 at hP hD
  refine lv_iinc (v := 25) (lv' := [(4, .int 25), (0, .ref q_60), (1, .ref q_1), (2, .int 0), (3, .ref q_3)]) hx hb dX7_begin_80 hl (k := 0) rfl (by decide) (by decide) rfl (fun ls hl => ?_)
  refine lv_goto (tgt := 57) hx hb dX7_begin_83 (by decide) ?_
  refine lv_iload hx hb dX7_begin_57 (lv_at hl 0 rfl) ?_
  refine lv_bipush (v := 60) hx hb dX7_begin_59 (by decide) ?_
  refine lv_icmp_ge (tgt := 86) hx hb dX7_begin_61 (by decide) (fun h9 => absurd h9 (by decide)) (fun _ => ?_)
  refine lv_aload_n hx hb dX7_begin_64 rfl (lv_at hl 1 rfl) ?_
  refine va_get (D := (dC, dI)) (ci := 7) (v := .ref q_62) (C := RX7) (T := TX7) (N := 18) hx hb hts mem_X7_begin_0 hown hK hP 0 rfl rfl 16 (by decide) (ow (k := 14) rfl) (fun _ h9 => h9) rfl dX7_begin_65 ?_
  refine lv_iload hx hb dX7_begin_68 (lv_at hl 0 rfl) ?_
  refine lv_iconst (v := 0) hx hb dX7_begin_70 (by decide) ?_
  refine va_zast hx hb hK hP hD hS 1 0 rfl rfl (show vp_in 25 60 by rw [vp_in_iff]; decide) dX7_begin_71 (fun H locs hP hD hS => ?_)
  have hP : va_P (dC, dI) vwP [(q_60, .inr (7, [.int 0, .ref q_1, .int 0, .int 0, .int 1, .int 0, .int 0, .int 0, .ref q_3, .int 0, .int 0, .int 0, .int 0, .long 0, .int 0, .int (-1), .ref q_62, .ref q_63])), (q_62, .inl (cA_64, 60, .inl (upd f_51 (25 : Int32).toNatClampNeg (vp_nar .boolean 0)))), (q_63, .inl (cA_65, 60, .inl f_52)), (q_3, .inr (0, [.int 0, .int 0, .int 0, .int 0, .ref q_4, .ref q_5, .ref q_6, .ref q_7, .ref q_8, .ref q_9, .ref q_10, .ref q_11, .ref q_12, .ref q_13, .ref q_14, .ref q_15, .ref q_16, .ref q_17, .ref q_18])), (q_4, .inl (cA_19, 301, .inl g0_1)), (q_15, .inl (cA_20, 301, .inl g1_2))] H := hP
  have hD : va_D A [(q_60, .inr (7, [.int 0, .ref q_1, .int 0, .int 0, .int 1, .int 0, .int 0, .int 0, .ref q_3, .int 0, .int 0, .int 0, .int 0, .long 0, .int 0, .int (-1), .ref q_62, .ref q_63])), (q_62, .inl (cA_64, 60, .inl (upd f_51 (25 : Int32).toNatClampNeg (vp_nar .boolean 0)))), (q_63, .inl (cA_65, 60, .inl f_52)), (q_3, .inr (0, [.int 0, .int 0, .int 0, .int 0, .ref q_4, .ref q_5, .ref q_6, .ref q_7, .ref q_8, .ref q_9, .ref q_10, .ref q_11, .ref q_12, .ref q_13, .ref q_14, .ref q_15, .ref q_16, .ref q_17, .ref q_18])), (q_4, .inl (cA_19, 301, .inl g0_1)), (q_15, .inl (cA_20, 301, .inl g1_2))] := hD
  generalize (upd f_51 (25 : Int32).toNatClampNeg (vp_nar .boolean 0)) = f_53 at hP hD
  refine lv_aload_n hx hb dX7_begin_72 rfl (lv_at hl 1 rfl) ?_
  refine va_get (D := (dC, dI)) (ci := 7) (v := .ref q_63) (C := RX7) (T := TX7) (N := 18) hx hb hts mem_X7_begin_0 hown hK hP 0 rfl rfl 17 (by decide) (ow (k := 15) rfl) (fun _ h9 => h9) rfl dX7_begin_73 ?_
  refine lv_iload hx hb dX7_begin_76 (lv_at hl 0 rfl) ?_
  refine lv_iconst (v := (-1)) hx hb dX7_begin_78 (by decide) ?_
  refine va_iast hx hb hK hP hD hS 2 1 rfl rfl (show vp_in 25 60 by rw [vp_in_iff]; decide) dX7_begin_79 (fun H locs hP hD hS => ?_)
  have hP : va_P (dC, dI) vwP [(q_60, .inr (7, [.int 0, .ref q_1, .int 0, .int 0, .int 1, .int 0, .int 0, .int 0, .ref q_3, .int 0, .int 0, .int 0, .int 0, .long 0, .int 0, .int (-1), .ref q_62, .ref q_63])), (q_62, .inl (cA_64, 60, .inl f_53)), (q_63, .inl (cA_65, 60, .inl (upd f_52 (25 : Int32).toNatClampNeg (-1)))), (q_3, .inr (0, [.int 0, .int 0, .int 0, .int 0, .ref q_4, .ref q_5, .ref q_6, .ref q_7, .ref q_8, .ref q_9, .ref q_10, .ref q_11, .ref q_12, .ref q_13, .ref q_14, .ref q_15, .ref q_16, .ref q_17, .ref q_18])), (q_4, .inl (cA_19, 301, .inl g0_1)), (q_15, .inl (cA_20, 301, .inl g1_2))] H := hP
  have hD : va_D A [(q_60, .inr (7, [.int 0, .ref q_1, .int 0, .int 0, .int 1, .int 0, .int 0, .int 0, .ref q_3, .int 0, .int 0, .int 0, .int 0, .long 0, .int 0, .int (-1), .ref q_62, .ref q_63])), (q_62, .inl (cA_64, 60, .inl f_53)), (q_63, .inl (cA_65, 60, .inl (upd f_52 (25 : Int32).toNatClampNeg (-1)))), (q_3, .inr (0, [.int 0, .int 0, .int 0, .int 0, .ref q_4, .ref q_5, .ref q_6, .ref q_7, .ref q_8, .ref q_9, .ref q_10, .ref q_11, .ref q_12, .ref q_13, .ref q_14, .ref q_15, .ref q_16, .ref q_17, .ref q_18])), (q_4, .inl (cA_19, 301, .inl g0_1)), (q_15, .inl (cA_20, 301, .inl g1_2))] := hD
  generalize (upd f_52 (25 : Int32).toNatClampNeg (-1)) = f_54 at hP hD
  refine lv_iinc (v := 26) (lv' := [(4, .int 26), (0, .ref q_60), (1, .ref q_1), (2, .int 0), (3, .ref q_3)]) hx hb dX7_begin_80 hl (k := 0) rfl (by decide) (by decide) rfl (fun ls hl => ?_)
  refine lv_goto (tgt := 57) hx hb dX7_begin_83 (by decide) ?_
  refine lv_iload hx hb dX7_begin_57 (lv_at hl 0 rfl) ?_
  refine lv_bipush (v := 60) hx hb dX7_begin_59 (by decide) ?_
  refine lv_icmp_ge (tgt := 86) hx hb dX7_begin_61 (by decide) (fun h9 => absurd h9 (by decide)) (fun _ => ?_)
  refine lv_aload_n hx hb dX7_begin_64 rfl (lv_at hl 1 rfl) ?_
  refine va_get (D := (dC, dI)) (ci := 7) (v := .ref q_62) (C := RX7) (T := TX7) (N := 18) hx hb hts mem_X7_begin_0 hown hK hP 0 rfl rfl 16 (by decide) (ow (k := 14) rfl) (fun _ h9 => h9) rfl dX7_begin_65 ?_
  refine lv_iload hx hb dX7_begin_68 (lv_at hl 0 rfl) ?_
  refine lv_iconst (v := 0) hx hb dX7_begin_70 (by decide) ?_
  refine va_zast hx hb hK hP hD hS 1 0 rfl rfl (show vp_in 26 60 by rw [vp_in_iff]; decide) dX7_begin_71 (fun H locs hP hD hS => ?_)
  have hP : va_P (dC, dI) vwP [(q_60, .inr (7, [.int 0, .ref q_1, .int 0, .int 0, .int 1, .int 0, .int 0, .int 0, .ref q_3, .int 0, .int 0, .int 0, .int 0, .long 0, .int 0, .int (-1), .ref q_62, .ref q_63])), (q_62, .inl (cA_64, 60, .inl (upd f_53 (26 : Int32).toNatClampNeg (vp_nar .boolean 0)))), (q_63, .inl (cA_65, 60, .inl f_54)), (q_3, .inr (0, [.int 0, .int 0, .int 0, .int 0, .ref q_4, .ref q_5, .ref q_6, .ref q_7, .ref q_8, .ref q_9, .ref q_10, .ref q_11, .ref q_12, .ref q_13, .ref q_14, .ref q_15, .ref q_16, .ref q_17, .ref q_18])), (q_4, .inl (cA_19, 301, .inl g0_1)), (q_15, .inl (cA_20, 301, .inl g1_2))] H := hP
  have hD : va_D A [(q_60, .inr (7, [.int 0, .ref q_1, .int 0, .int 0, .int 1, .int 0, .int 0, .int 0, .ref q_3, .int 0, .int 0, .int 0, .int 0, .long 0, .int 0, .int (-1), .ref q_62, .ref q_63])), (q_62, .inl (cA_64, 60, .inl (upd f_53 (26 : Int32).toNatClampNeg (vp_nar .boolean 0)))), (q_63, .inl (cA_65, 60, .inl f_54)), (q_3, .inr (0, [.int 0, .int 0, .int 0, .int 0, .ref q_4, .ref q_5, .ref q_6, .ref q_7, .ref q_8, .ref q_9, .ref q_10, .ref q_11, .ref q_12, .ref q_13, .ref q_14, .ref q_15, .ref q_16, .ref q_17, .ref q_18])), (q_4, .inl (cA_19, 301, .inl g0_1)), (q_15, .inl (cA_20, 301, .inl g1_2))] := hD
  generalize (upd f_53 (26 : Int32).toNatClampNeg (vp_nar .boolean 0)) = f_55 at hP hD
  refine lv_aload_n hx hb dX7_begin_72 rfl (lv_at hl 1 rfl) ?_
  refine va_get (D := (dC, dI)) (ci := 7) (v := .ref q_63) (C := RX7) (T := TX7) (N := 18) hx hb hts mem_X7_begin_0 hown hK hP 0 rfl rfl 17 (by decide) (ow (k := 15) rfl) (fun _ h9 => h9) rfl dX7_begin_73 ?_
  refine lv_iload hx hb dX7_begin_76 (lv_at hl 0 rfl) ?_
  refine lv_iconst (v := (-1)) hx hb dX7_begin_78 (by decide) ?_
  refine va_iast hx hb hK hP hD hS 2 1 rfl rfl (show vp_in 26 60 by rw [vp_in_iff]; decide) dX7_begin_79 (fun H locs hP hD hS => ?_)
  have hP : va_P (dC, dI) vwP [(q_60, .inr (7, [.int 0, .ref q_1, .int 0, .int 0, .int 1, .int 0, .int 0, .int 0, .ref q_3, .int 0, .int 0, .int 0, .int 0, .long 0, .int 0, .int (-1), .ref q_62, .ref q_63])), (q_62, .inl (cA_64, 60, .inl f_55)), (q_63, .inl (cA_65, 60, .inl (upd f_54 (26 : Int32).toNatClampNeg (-1)))), (q_3, .inr (0, [.int 0, .int 0, .int 0, .int 0, .ref q_4, .ref q_5, .ref q_6, .ref q_7, .ref q_8, .ref q_9, .ref q_10, .ref q_11, .ref q_12, .ref q_13, .ref q_14, .ref q_15, .ref q_16, .ref q_17, .ref q_18])), (q_4, .inl (cA_19, 301, .inl g0_1)), (q_15, .inl (cA_20, 301, .inl g1_2))] H := hP
  have hD : va_D A [(q_60, .inr (7, [.int 0, .ref q_1, .int 0, .int 0, .int 1, .int 0, .int 0, .int 0, .ref q_3, .int 0, .int 0, .int 0, .int 0, .long 0, .int 0, .int (-1), .ref q_62, .ref q_63])), (q_62, .inl (cA_64, 60, .inl f_55)), (q_63, .inl (cA_65, 60, .inl (upd f_54 (26 : Int32).toNatClampNeg (-1)))), (q_3, .inr (0, [.int 0, .int 0, .int 0, .int 0, .ref q_4, .ref q_5, .ref q_6, .ref q_7, .ref q_8, .ref q_9, .ref q_10, .ref q_11, .ref q_12, .ref q_13, .ref q_14, .ref q_15, .ref q_16, .ref q_17, .ref q_18])), (q_4, .inl (cA_19, 301, .inl g0_1)), (q_15, .inl (cA_20, 301, .inl g1_2))] := hD
  generalize (upd f_54 (26 : Int32).toNatClampNeg (-1)) = f_56 at hP hD
  refine lv_iinc (v := 27) (lv' := [(4, .int 27), (0, .ref q_60), (1, .ref q_1), (2, .int 0), (3, .ref q_3)]) hx hb dX7_begin_80 hl (k := 0) rfl (by decide) (by decide) rfl (fun ls hl => ?_)
  refine lv_goto (tgt := 57) hx hb dX7_begin_83 (by decide) ?_
  refine lv_iload hx hb dX7_begin_57 (lv_at hl 0 rfl) ?_
  refine lv_bipush (v := 60) hx hb dX7_begin_59 (by decide) ?_
  refine lv_icmp_ge (tgt := 86) hx hb dX7_begin_61 (by decide) (fun h9 => absurd h9 (by decide)) (fun _ => ?_)
  refine lv_aload_n hx hb dX7_begin_64 rfl (lv_at hl 1 rfl) ?_
  refine va_get (D := (dC, dI)) (ci := 7) (v := .ref q_62) (C := RX7) (T := TX7) (N := 18) hx hb hts mem_X7_begin_0 hown hK hP 0 rfl rfl 16 (by decide) (ow (k := 14) rfl) (fun _ h9 => h9) rfl dX7_begin_65 ?_
  refine lv_iload hx hb dX7_begin_68 (lv_at hl 0 rfl) ?_
  refine lv_iconst (v := 0) hx hb dX7_begin_70 (by decide) ?_
  refine va_zast hx hb hK hP hD hS 1 0 rfl rfl (show vp_in 27 60 by rw [vp_in_iff]; decide) dX7_begin_71 (fun H locs hP hD hS => ?_)
  have hP : va_P (dC, dI) vwP [(q_60, .inr (7, [.int 0, .ref q_1, .int 0, .int 0, .int 1, .int 0, .int 0, .int 0, .ref q_3, .int 0, .int 0, .int 0, .int 0, .long 0, .int 0, .int (-1), .ref q_62, .ref q_63])), (q_62, .inl (cA_64, 60, .inl (upd f_55 (27 : Int32).toNatClampNeg (vp_nar .boolean 0)))), (q_63, .inl (cA_65, 60, .inl f_56)), (q_3, .inr (0, [.int 0, .int 0, .int 0, .int 0, .ref q_4, .ref q_5, .ref q_6, .ref q_7, .ref q_8, .ref q_9, .ref q_10, .ref q_11, .ref q_12, .ref q_13, .ref q_14, .ref q_15, .ref q_16, .ref q_17, .ref q_18])), (q_4, .inl (cA_19, 301, .inl g0_1)), (q_15, .inl (cA_20, 301, .inl g1_2))] H := hP
  have hD : va_D A [(q_60, .inr (7, [.int 0, .ref q_1, .int 0, .int 0, .int 1, .int 0, .int 0, .int 0, .ref q_3, .int 0, .int 0, .int 0, .int 0, .long 0, .int 0, .int (-1), .ref q_62, .ref q_63])), (q_62, .inl (cA_64, 60, .inl (upd f_55 (27 : Int32).toNatClampNeg (vp_nar .boolean 0)))), (q_63, .inl (cA_65, 60, .inl f_56)), (q_3, .inr (0, [.int 0, .int 0, .int 0, .int 0, .ref q_4, .ref q_5, .ref q_6, .ref q_7, .ref q_8, .ref q_9, .ref q_10, .ref q_11, .ref q_12, .ref q_13, .ref q_14, .ref q_15, .ref q_16, .ref q_17, .ref q_18])), (q_4, .inl (cA_19, 301, .inl g0_1)), (q_15, .inl (cA_20, 301, .inl g1_2))] := hD
  generalize (upd f_55 (27 : Int32).toNatClampNeg (vp_nar .boolean 0)) = f_57 at hP hD
  refine lv_aload_n hx hb dX7_begin_72 rfl (lv_at hl 1 rfl) ?_
  refine va_get (D := (dC, dI)) (ci := 7) (v := .ref q_63) (C := RX7) (T := TX7) (N := 18) hx hb hts mem_X7_begin_0 hown hK hP 0 rfl rfl 17 (by decide) (ow (k := 15) rfl) (fun _ h9 => h9) rfl dX7_begin_73 ?_
  refine lv_iload hx hb dX7_begin_76 (lv_at hl 0 rfl) ?_
  refine lv_iconst (v := (-1)) hx hb dX7_begin_78 (by decide) ?_
  refine va_iast hx hb hK hP hD hS 2 1 rfl rfl (show vp_in 27 60 by rw [vp_in_iff]; decide) dX7_begin_79 (fun H locs hP hD hS => ?_)
  have hP : va_P (dC, dI) vwP [(q_60, .inr (7, [.int 0, .ref q_1, .int 0, .int 0, .int 1, .int 0, .int 0, .int 0, .ref q_3, .int 0, .int 0, .int 0, .int 0, .long 0, .int 0, .int (-1), .ref q_62, .ref q_63])), (q_62, .inl (cA_64, 60, .inl f_57)), (q_63, .inl (cA_65, 60, .inl (upd f_56 (27 : Int32).toNatClampNeg (-1)))), (q_3, .inr (0, [.int 0, .int 0, .int 0, .int 0, .ref q_4, .ref q_5, .ref q_6, .ref q_7, .ref q_8, .ref q_9, .ref q_10, .ref q_11, .ref q_12, .ref q_13, .ref q_14, .ref q_15, .ref q_16, .ref q_17, .ref q_18])), (q_4, .inl (cA_19, 301, .inl g0_1)), (q_15, .inl (cA_20, 301, .inl g1_2))] H := hP
  have hD : va_D A [(q_60, .inr (7, [.int 0, .ref q_1, .int 0, .int 0, .int 1, .int 0, .int 0, .int 0, .ref q_3, .int 0, .int 0, .int 0, .int 0, .long 0, .int 0, .int (-1), .ref q_62, .ref q_63])), (q_62, .inl (cA_64, 60, .inl f_57)), (q_63, .inl (cA_65, 60, .inl (upd f_56 (27 : Int32).toNatClampNeg (-1)))), (q_3, .inr (0, [.int 0, .int 0, .int 0, .int 0, .ref q_4, .ref q_5, .ref q_6, .ref q_7, .ref q_8, .ref q_9, .ref q_10, .ref q_11, .ref q_12, .ref q_13, .ref q_14, .ref q_15, .ref q_16, .ref q_17, .ref q_18])), (q_4, .inl (cA_19, 301, .inl g0_1)), (q_15, .inl (cA_20, 301, .inl g1_2))] := hD
  generalize (upd f_56 (27 : Int32).toNatClampNeg (-1)) = f_58 at hP hD
  refine lv_iinc (v := 28) (lv' := [(4, .int 28), (0, .ref q_60), (1, .ref q_1), (2, .int 0), (3, .ref q_3)]) hx hb dX7_begin_80 hl (k := 0) rfl (by decide) (by decide) rfl (fun ls hl => ?_)
  refine lv_goto (tgt := 57) hx hb dX7_begin_83 (by decide) ?_
  refine lv_iload hx hb dX7_begin_57 (lv_at hl 0 rfl) ?_
  refine lv_bipush (v := 60) hx hb dX7_begin_59 (by decide) ?_
  refine lv_icmp_ge (tgt := 86) hx hb dX7_begin_61 (by decide) (fun h9 => absurd h9 (by decide)) (fun _ => ?_)
  refine lv_aload_n hx hb dX7_begin_64 rfl (lv_at hl 1 rfl) ?_
  refine va_get (D := (dC, dI)) (ci := 7) (v := .ref q_62) (C := RX7) (T := TX7) (N := 18) hx hb hts mem_X7_begin_0 hown hK hP 0 rfl rfl 16 (by decide) (ow (k := 14) rfl) (fun _ h9 => h9) rfl dX7_begin_65 ?_
  refine lv_iload hx hb dX7_begin_68 (lv_at hl 0 rfl) ?_
  refine lv_iconst (v := 0) hx hb dX7_begin_70 (by decide) ?_
  refine va_zast hx hb hK hP hD hS 1 0 rfl rfl (show vp_in 28 60 by rw [vp_in_iff]; decide) dX7_begin_71 (fun H locs hP hD hS => ?_)
  have hP : va_P (dC, dI) vwP [(q_60, .inr (7, [.int 0, .ref q_1, .int 0, .int 0, .int 1, .int 0, .int 0, .int 0, .ref q_3, .int 0, .int 0, .int 0, .int 0, .long 0, .int 0, .int (-1), .ref q_62, .ref q_63])), (q_62, .inl (cA_64, 60, .inl (upd f_57 (28 : Int32).toNatClampNeg (vp_nar .boolean 0)))), (q_63, .inl (cA_65, 60, .inl f_58)), (q_3, .inr (0, [.int 0, .int 0, .int 0, .int 0, .ref q_4, .ref q_5, .ref q_6, .ref q_7, .ref q_8, .ref q_9, .ref q_10, .ref q_11, .ref q_12, .ref q_13, .ref q_14, .ref q_15, .ref q_16, .ref q_17, .ref q_18])), (q_4, .inl (cA_19, 301, .inl g0_1)), (q_15, .inl (cA_20, 301, .inl g1_2))] H := hP
  have hD : va_D A [(q_60, .inr (7, [.int 0, .ref q_1, .int 0, .int 0, .int 1, .int 0, .int 0, .int 0, .ref q_3, .int 0, .int 0, .int 0, .int 0, .long 0, .int 0, .int (-1), .ref q_62, .ref q_63])), (q_62, .inl (cA_64, 60, .inl (upd f_57 (28 : Int32).toNatClampNeg (vp_nar .boolean 0)))), (q_63, .inl (cA_65, 60, .inl f_58)), (q_3, .inr (0, [.int 0, .int 0, .int 0, .int 0, .ref q_4, .ref q_5, .ref q_6, .ref q_7, .ref q_8, .ref q_9, .ref q_10, .ref q_11, .ref q_12, .ref q_13, .ref q_14, .ref q_15, .ref q_16, .ref q_17, .ref q_18])), (q_4, .inl (cA_19, 301, .inl g0_1)), (q_15, .inl (cA_20, 301, .inl g1_2))] := hD
  generalize (upd f_57 (28 : Int32).toNatClampNeg (vp_nar .boolean 0)) = f_59 at hP hD
  refine lv_aload_n hx hb dX7_begin_72 rfl (lv_at hl 1 rfl) ?_
  refine va_get (D := (dC, dI)) (ci := 7) (v := .ref q_63) (C := RX7) (T := TX7) (N := 18) hx hb hts mem_X7_begin_0 hown hK hP 0 rfl rfl 17 (by decide) (ow (k := 15) rfl) (fun _ h9 => h9) rfl dX7_begin_73 ?_
  refine lv_iload hx hb dX7_begin_76 (lv_at hl 0 rfl) ?_
  refine lv_iconst (v := (-1)) hx hb dX7_begin_78 (by decide) ?_
  refine va_iast hx hb hK hP hD hS 2 1 rfl rfl (show vp_in 28 60 by rw [vp_in_iff]; decide) dX7_begin_79 (fun H locs hP hD hS => ?_)
  have hP : va_P (dC, dI) vwP [(q_60, .inr (7, [.int 0, .ref q_1, .int 0, .int 0, .int 1, .int 0, .int 0, .int 0, .ref q_3, .int 0, .int 0, .int 0, .int 0, .long 0, .int 0, .int (-1), .ref q_62, .ref q_63])), (q_62, .inl (cA_64, 60, .inl f_59)), (q_63, .inl (cA_65, 60, .inl (upd f_58 (28 : Int32).toNatClampNeg (-1)))), (q_3, .inr (0, [.int 0, .int 0, .int 0, .int 0, .ref q_4, .ref q_5, .ref q_6, .ref q_7, .ref q_8, .ref q_9, .ref q_10, .ref q_11, .ref q_12, .ref q_13, .ref q_14, .ref q_15, .ref q_16, .ref q_17, .ref q_18])), (q_4, .inl (cA_19, 301, .inl g0_1)), (q_15, .inl (cA_20, 301, .inl g1_2))] H := hP
  have hD : va_D A [(q_60, .inr (7, [.int 0, .ref q_1, .int 0, .int 0, .int 1, .int 0, .int 0, .int 0, .ref q_3, .int 0, .int 0, .int 0, .int 0, .long 0, .int 0, .int (-1), .ref q_62, .ref q_63])), (q_62, .inl (cA_64, 60, .inl f_59)), (q_63, .inl (cA_65, 60, .inl (upd f_58 (28 : Int32).toNatClampNeg (-1)))), (q_3, .inr (0, [.int 0, .int 0, .int 0, .int 0, .ref q_4, .ref q_5, .ref q_6, .ref q_7, .ref q_8, .ref q_9, .ref q_10, .ref q_11, .ref q_12, .ref q_13, .ref q_14, .ref q_15, .ref q_16, .ref q_17, .ref q_18])), (q_4, .inl (cA_19, 301, .inl g0_1)), (q_15, .inl (cA_20, 301, .inl g1_2))] := hD
  generalize (upd f_58 (28 : Int32).toNatClampNeg (-1)) = f_60 at hP hD
  refine lv_iinc (v := 29) (lv' := [(4, .int 29), (0, .ref q_60), (1, .ref q_1), (2, .int 0), (3, .ref q_3)]) hx hb dX7_begin_80 hl (k := 0) rfl (by decide) (by decide) rfl (fun ls hl => ?_)
  refine lv_goto (tgt := 57) hx hb dX7_begin_83 (by decide) ?_
  refine lv_iload hx hb dX7_begin_57 (lv_at hl 0 rfl) ?_
  refine lv_bipush (v := 60) hx hb dX7_begin_59 (by decide) ?_
  refine lv_icmp_ge (tgt := 86) hx hb dX7_begin_61 (by decide) (fun h9 => absurd h9 (by decide)) (fun _ => ?_)
  refine lv_aload_n hx hb dX7_begin_64 rfl (lv_at hl 1 rfl) ?_
  refine va_get (D := (dC, dI)) (ci := 7) (v := .ref q_62) (C := RX7) (T := TX7) (N := 18) hx hb hts mem_X7_begin_0 hown hK hP 0 rfl rfl 16 (by decide) (ow (k := 14) rfl) (fun _ h9 => h9) rfl dX7_begin_65 ?_
  refine lv_iload hx hb dX7_begin_68 (lv_at hl 0 rfl) ?_
  refine lv_iconst (v := 0) hx hb dX7_begin_70 (by decide) ?_
  refine va_zast hx hb hK hP hD hS 1 0 rfl rfl (show vp_in 29 60 by rw [vp_in_iff]; decide) dX7_begin_71 (fun H locs hP hD hS => ?_)
  have hP : va_P (dC, dI) vwP [(q_60, .inr (7, [.int 0, .ref q_1, .int 0, .int 0, .int 1, .int 0, .int 0, .int 0, .ref q_3, .int 0, .int 0, .int 0, .int 0, .long 0, .int 0, .int (-1), .ref q_62, .ref q_63])), (q_62, .inl (cA_64, 60, .inl (upd f_59 (29 : Int32).toNatClampNeg (vp_nar .boolean 0)))), (q_63, .inl (cA_65, 60, .inl f_60)), (q_3, .inr (0, [.int 0, .int 0, .int 0, .int 0, .ref q_4, .ref q_5, .ref q_6, .ref q_7, .ref q_8, .ref q_9, .ref q_10, .ref q_11, .ref q_12, .ref q_13, .ref q_14, .ref q_15, .ref q_16, .ref q_17, .ref q_18])), (q_4, .inl (cA_19, 301, .inl g0_1)), (q_15, .inl (cA_20, 301, .inl g1_2))] H := hP
  have hD : va_D A [(q_60, .inr (7, [.int 0, .ref q_1, .int 0, .int 0, .int 1, .int 0, .int 0, .int 0, .ref q_3, .int 0, .int 0, .int 0, .int 0, .long 0, .int 0, .int (-1), .ref q_62, .ref q_63])), (q_62, .inl (cA_64, 60, .inl (upd f_59 (29 : Int32).toNatClampNeg (vp_nar .boolean 0)))), (q_63, .inl (cA_65, 60, .inl f_60)), (q_3, .inr (0, [.int 0, .int 0, .int 0, .int 0, .ref q_4, .ref q_5, .ref q_6, .ref q_7, .ref q_8, .ref q_9, .ref q_10, .ref q_11, .ref q_12, .ref q_13, .ref q_14, .ref q_15, .ref q_16, .ref q_17, .ref q_18])), (q_4, .inl (cA_19, 301, .inl g0_1)), (q_15, .inl (cA_20, 301, .inl g1_2))] := hD
  generalize (upd f_59 (29 : Int32).toNatClampNeg (vp_nar .boolean 0)) = f_61 at hP hD
  refine lv_aload_n hx hb dX7_begin_72 rfl (lv_at hl 1 rfl) ?_
  refine va_get (D := (dC, dI)) (ci := 7) (v := .ref q_63) (C := RX7) (T := TX7) (N := 18) hx hb hts mem_X7_begin_0 hown hK hP 0 rfl rfl 17 (by decide) (ow (k := 15) rfl) (fun _ h9 => h9) rfl dX7_begin_73 ?_
  refine lv_iload hx hb dX7_begin_76 (lv_at hl 0 rfl) ?_
  refine lv_iconst (v := (-1)) hx hb dX7_begin_78 (by decide) ?_
  refine va_iast hx hb hK hP hD hS 2 1 rfl rfl (show vp_in 29 60 by rw [vp_in_iff]; decide) dX7_begin_79 (fun H locs hP hD hS => ?_)
  have hP : va_P (dC, dI) vwP [(q_60, .inr (7, [.int 0, .ref q_1, .int 0, .int 0, .int 1, .int 0, .int 0, .int 0, .ref q_3, .int 0, .int 0, .int 0, .int 0, .long 0, .int 0, .int (-1), .ref q_62, .ref q_63])), (q_62, .inl (cA_64, 60, .inl f_61)), (q_63, .inl (cA_65, 60, .inl (upd f_60 (29 : Int32).toNatClampNeg (-1)))), (q_3, .inr (0, [.int 0, .int 0, .int 0, .int 0, .ref q_4, .ref q_5, .ref q_6, .ref q_7, .ref q_8, .ref q_9, .ref q_10, .ref q_11, .ref q_12, .ref q_13, .ref q_14, .ref q_15, .ref q_16, .ref q_17, .ref q_18])), (q_4, .inl (cA_19, 301, .inl g0_1)), (q_15, .inl (cA_20, 301, .inl g1_2))] H := hP
  have hD : va_D A [(q_60, .inr (7, [.int 0, .ref q_1, .int 0, .int 0, .int 1, .int 0, .int 0, .int 0, .ref q_3, .int 0, .int 0, .int 0, .int 0, .long 0, .int 0, .int (-1), .ref q_62, .ref q_63])), (q_62, .inl (cA_64, 60, .inl f_61)), (q_63, .inl (cA_65, 60, .inl (upd f_60 (29 : Int32).toNatClampNeg (-1)))), (q_3, .inr (0, [.int 0, .int 0, .int 0, .int 0, .ref q_4, .ref q_5, .ref q_6, .ref q_7, .ref q_8, .ref q_9, .ref q_10, .ref q_11, .ref q_12, .ref q_13, .ref q_14, .ref q_15, .ref q_16, .ref q_17, .ref q_18])), (q_4, .inl (cA_19, 301, .inl g0_1)), (q_15, .inl (cA_20, 301, .inl g1_2))] := hD
  generalize (upd f_60 (29 : Int32).toNatClampNeg (-1)) = f_62 at hP hD
  refine lv_iinc (v := 30) (lv' := [(4, .int 30), (0, .ref q_60), (1, .ref q_1), (2, .int 0), (3, .ref q_3)]) hx hb dX7_begin_80 hl (k := 0) rfl (by decide) (by decide) rfl (fun ls hl => ?_)
  refine lv_goto (tgt := 57) hx hb dX7_begin_83 (by decide) ?_
  refine lv_iload hx hb dX7_begin_57 (lv_at hl 0 rfl) ?_
  refine lv_bipush (v := 60) hx hb dX7_begin_59 (by decide) ?_
  refine lv_icmp_ge (tgt := 86) hx hb dX7_begin_61 (by decide) (fun h9 => absurd h9 (by decide)) (fun _ => ?_)
  refine lv_aload_n hx hb dX7_begin_64 rfl (lv_at hl 1 rfl) ?_
  refine va_get (D := (dC, dI)) (ci := 7) (v := .ref q_62) (C := RX7) (T := TX7) (N := 18) hx hb hts mem_X7_begin_0 hown hK hP 0 rfl rfl 16 (by decide) (ow (k := 14) rfl) (fun _ h9 => h9) rfl dX7_begin_65 ?_
  refine lv_iload hx hb dX7_begin_68 (lv_at hl 0 rfl) ?_
  refine lv_iconst (v := 0) hx hb dX7_begin_70 (by decide) ?_
  refine va_zast hx hb hK hP hD hS 1 0 rfl rfl (show vp_in 30 60 by rw [vp_in_iff]; decide) dX7_begin_71 (fun H locs hP hD hS => ?_)
  have hP : va_P (dC, dI) vwP [(q_60, .inr (7, [.int 0, .ref q_1, .int 0, .int 0, .int 1, .int 0, .int 0, .int 0, .ref q_3, .int 0, .int 0, .int 0, .int 0, .long 0, .int 0, .int (-1), .ref q_62, .ref q_63])), (q_62, .inl (cA_64, 60, .inl (upd f_61 (30 : Int32).toNatClampNeg (vp_nar .boolean 0)))), (q_63, .inl (cA_65, 60, .inl f_62)), (q_3, .inr (0, [.int 0, .int 0, .int 0, .int 0, .ref q_4, .ref q_5, .ref q_6, .ref q_7, .ref q_8, .ref q_9, .ref q_10, .ref q_11, .ref q_12, .ref q_13, .ref q_14, .ref q_15, .ref q_16, .ref q_17, .ref q_18])), (q_4, .inl (cA_19, 301, .inl g0_1)), (q_15, .inl (cA_20, 301, .inl g1_2))] H := hP
  have hD : va_D A [(q_60, .inr (7, [.int 0, .ref q_1, .int 0, .int 0, .int 1, .int 0, .int 0, .int 0, .ref q_3, .int 0, .int 0, .int 0, .int 0, .long 0, .int 0, .int (-1), .ref q_62, .ref q_63])), (q_62, .inl (cA_64, 60, .inl (upd f_61 (30 : Int32).toNatClampNeg (vp_nar .boolean 0)))), (q_63, .inl (cA_65, 60, .inl f_62)), (q_3, .inr (0, [.int 0, .int 0, .int 0, .int 0, .ref q_4, .ref q_5, .ref q_6, .ref q_7, .ref q_8, .ref q_9, .ref q_10, .ref q_11, .ref q_12, .ref q_13, .ref q_14, .ref q_15, .ref q_16, .ref q_17, .ref q_18])), (q_4, .inl (cA_19, 301, .inl g0_1)), (q_15, .inl (cA_20, 301, .inl g1_2))] := hD
  generalize (upd f_61 (30 : Int32).toNatClampNeg (vp_nar .boolean 0)) = f_63 at hP hD
  refine lv_aload_n hx hb dX7_begin_72 rfl (lv_at hl 1 rfl) ?_
  refine va_get (D := (dC, dI)) (ci := 7) (v := .ref q_63) (C := RX7) (T := TX7) (N := 18) hx hb hts mem_X7_begin_0 hown hK hP 0 rfl rfl 17 (by decide) (ow (k := 15) rfl) (fun _ h9 => h9) rfl dX7_begin_73 ?_
  refine lv_iload hx hb dX7_begin_76 (lv_at hl 0 rfl) ?_
  refine lv_iconst (v := (-1)) hx hb dX7_begin_78 (by decide) ?_
  refine va_iast hx hb hK hP hD hS 2 1 rfl rfl (show vp_in 30 60 by rw [vp_in_iff]; decide) dX7_begin_79 (fun H locs hP hD hS => ?_)
  have hP : va_P (dC, dI) vwP [(q_60, .inr (7, [.int 0, .ref q_1, .int 0, .int 0, .int 1, .int 0, .int 0, .int 0, .ref q_3, .int 0, .int 0, .int 0, .int 0, .long 0, .int 0, .int (-1), .ref q_62, .ref q_63])), (q_62, .inl (cA_64, 60, .inl f_63)), (q_63, .inl (cA_65, 60, .inl (upd f_62 (30 : Int32).toNatClampNeg (-1)))), (q_3, .inr (0, [.int 0, .int 0, .int 0, .int 0, .ref q_4, .ref q_5, .ref q_6, .ref q_7, .ref q_8, .ref q_9, .ref q_10, .ref q_11, .ref q_12, .ref q_13, .ref q_14, .ref q_15, .ref q_16, .ref q_17, .ref q_18])), (q_4, .inl (cA_19, 301, .inl g0_1)), (q_15, .inl (cA_20, 301, .inl g1_2))] H := hP
  have hD : va_D A [(q_60, .inr (7, [.int 0, .ref q_1, .int 0, .int 0, .int 1, .int 0, .int 0, .int 0, .ref q_3, .int 0, .int 0, .int 0, .int 0, .long 0, .int 0, .int (-1), .ref q_62, .ref q_63])), (q_62, .inl (cA_64, 60, .inl f_63)), (q_63, .inl (cA_65, 60, .inl (upd f_62 (30 : Int32).toNatClampNeg (-1)))), (q_3, .inr (0, [.int 0, .int 0, .int 0, .int 0, .ref q_4, .ref q_5, .ref q_6, .ref q_7, .ref q_8, .ref q_9, .ref q_10, .ref q_11, .ref q_12, .ref q_13, .ref q_14, .ref q_15, .ref q_16, .ref q_17, .ref q_18])), (q_4, .inl (cA_19, 301, .inl g0_1)), (q_15, .inl (cA_20, 301, .inl g1_2))] := hD
  generalize (upd f_62 (30 : Int32).toNatClampNeg (-1)) = f_64 at hP hD
  refine lv_iinc (v := 31) (lv' := [(4, .int 31), (0, .ref q_60), (1, .ref q_1), (2, .int 0), (3, .ref q_3)]) hx hb dX7_begin_80 hl (k := 0) rfl (by decide) (by decide) rfl (fun ls hl => ?_)
  refine lv_goto (tgt := 57) hx hb dX7_begin_83 (by decide) ?_
  refine lv_iload hx hb dX7_begin_57 (lv_at hl 0 rfl) ?_
  refine lv_bipush (v := 60) hx hb dX7_begin_59 (by decide) ?_
  refine lv_icmp_ge (tgt := 86) hx hb dX7_begin_61 (by decide) (fun h9 => absurd h9 (by decide)) (fun _ => ?_)
  refine lv_aload_n hx hb dX7_begin_64 rfl (lv_at hl 1 rfl) ?_
  refine va_get (D := (dC, dI)) (ci := 7) (v := .ref q_62) (C := RX7) (T := TX7) (N := 18) hx hb hts mem_X7_begin_0 hown hK hP 0 rfl rfl 16 (by decide) (ow (k := 14) rfl) (fun _ h9 => h9) rfl dX7_begin_65 ?_
  refine lv_iload hx hb dX7_begin_68 (lv_at hl 0 rfl) ?_
  refine lv_iconst (v := 0) hx hb dX7_begin_70 (by decide) ?_
  refine va_zast hx hb hK hP hD hS 1 0 rfl rfl (show vp_in 31 60 by rw [vp_in_iff]; decide) dX7_begin_71 (fun H locs hP hD hS => ?_)
  have hP : va_P (dC, dI) vwP [(q_60, .inr (7, [.int 0, .ref q_1, .int 0, .int 0, .int 1, .int 0, .int 0, .int 0, .ref q_3, .int 0, .int 0, .int 0, .int 0, .long 0, .int 0, .int (-1), .ref q_62, .ref q_63])), (q_62, .inl (cA_64, 60, .inl (upd f_63 (31 : Int32).toNatClampNeg (vp_nar .boolean 0)))), (q_63, .inl (cA_65, 60, .inl f_64)), (q_3, .inr (0, [.int 0, .int 0, .int 0, .int 0, .ref q_4, .ref q_5, .ref q_6, .ref q_7, .ref q_8, .ref q_9, .ref q_10, .ref q_11, .ref q_12, .ref q_13, .ref q_14, .ref q_15, .ref q_16, .ref q_17, .ref q_18])), (q_4, .inl (cA_19, 301, .inl g0_1)), (q_15, .inl (cA_20, 301, .inl g1_2))] H := hP
  have hD : va_D A [(q_60, .inr (7, [.int 0, .ref q_1, .int 0, .int 0, .int 1, .int 0, .int 0, .int 0, .ref q_3, .int 0, .int 0, .int 0, .int 0, .long 0, .int 0, .int (-1), .ref q_62, .ref q_63])), (q_62, .inl (cA_64, 60, .inl (upd f_63 (31 : Int32).toNatClampNeg (vp_nar .boolean 0)))), (q_63, .inl (cA_65, 60, .inl f_64)), (q_3, .inr (0, [.int 0, .int 0, .int 0, .int 0, .ref q_4, .ref q_5, .ref q_6, .ref q_7, .ref q_8, .ref q_9, .ref q_10, .ref q_11, .ref q_12, .ref q_13, .ref q_14, .ref q_15, .ref q_16, .ref q_17, .ref q_18])), (q_4, .inl (cA_19, 301, .inl g0_1)), (q_15, .inl (cA_20, 301, .inl g1_2))] := hD
  generalize (upd f_63 (31 : Int32).toNatClampNeg (vp_nar .boolean 0)) = f_65 at hP hD
  refine lv_aload_n hx hb dX7_begin_72 rfl (lv_at hl 1 rfl) ?_
  refine va_get (D := (dC, dI)) (ci := 7) (v := .ref q_63) (C := RX7) (T := TX7) (N := 18) hx hb hts mem_X7_begin_0 hown hK hP 0 rfl rfl 17 (by decide) (ow (k := 15) rfl) (fun _ h9 => h9) rfl dX7_begin_73 ?_
  refine lv_iload hx hb dX7_begin_76 (lv_at hl 0 rfl) ?_
  refine lv_iconst (v := (-1)) hx hb dX7_begin_78 (by decide) ?_
  refine va_iast hx hb hK hP hD hS 2 1 rfl rfl (show vp_in 31 60 by rw [vp_in_iff]; decide) dX7_begin_79 (fun H locs hP hD hS => ?_)
  have hP : va_P (dC, dI) vwP [(q_60, .inr (7, [.int 0, .ref q_1, .int 0, .int 0, .int 1, .int 0, .int 0, .int 0, .ref q_3, .int 0, .int 0, .int 0, .int 0, .long 0, .int 0, .int (-1), .ref q_62, .ref q_63])), (q_62, .inl (cA_64, 60, .inl f_65)), (q_63, .inl (cA_65, 60, .inl (upd f_64 (31 : Int32).toNatClampNeg (-1)))), (q_3, .inr (0, [.int 0, .int 0, .int 0, .int 0, .ref q_4, .ref q_5, .ref q_6, .ref q_7, .ref q_8, .ref q_9, .ref q_10, .ref q_11, .ref q_12, .ref q_13, .ref q_14, .ref q_15, .ref q_16, .ref q_17, .ref q_18])), (q_4, .inl (cA_19, 301, .inl g0_1)), (q_15, .inl (cA_20, 301, .inl g1_2))] H := hP
  have hD : va_D A [(q_60, .inr (7, [.int 0, .ref q_1, .int 0, .int 0, .int 1, .int 0, .int 0, .int 0, .ref q_3, .int 0, .int 0, .int 0, .int 0, .long 0, .int 0, .int (-1), .ref q_62, .ref q_63])), (q_62, .inl (cA_64, 60, .inl f_65)), (q_63, .inl (cA_65, 60, .inl (upd f_64 (31 : Int32).toNatClampNeg (-1)))), (q_3, .inr (0, [.int 0, .int 0, .int 0, .int 0, .ref q_4, .ref q_5, .ref q_6, .ref q_7, .ref q_8, .ref q_9, .ref q_10, .ref q_11, .ref q_12, .ref q_13, .ref q_14, .ref q_15, .ref q_16, .ref q_17, .ref q_18])), (q_4, .inl (cA_19, 301, .inl g0_1)), (q_15, .inl (cA_20, 301, .inl g1_2))] := hD
  generalize (upd f_64 (31 : Int32).toNatClampNeg (-1)) = f_66 at hP hD
  refine lv_iinc (v := 32) (lv' := [(4, .int 32), (0, .ref q_60), (1, .ref q_1), (2, .int 0), (3, .ref q_3)]) hx hb dX7_begin_80 hl (k := 0) rfl (by decide) (by decide) rfl (fun ls hl => ?_)
  refine lv_goto (tgt := 57) hx hb dX7_begin_83 (by decide) ?_
  refine lv_iload hx hb dX7_begin_57 (lv_at hl 0 rfl) ?_
  refine lv_bipush (v := 60) hx hb dX7_begin_59 (by decide) ?_
  refine lv_icmp_ge (tgt := 86) hx hb dX7_begin_61 (by decide) (fun h9 => absurd h9 (by decide)) (fun _ => ?_)
  refine lv_aload_n hx hb dX7_begin_64 rfl (lv_at hl 1 rfl) ?_
  refine va_get (D := (dC, dI)) (ci := 7) (v := .ref q_62) (C := RX7) (T := TX7) (N := 18) hx hb hts mem_X7_begin_0 hown hK hP 0 rfl rfl 16 (by decide) (ow (k := 14) rfl) (fun _ h9 => h9) rfl dX7_begin_65 ?_
  refine lv_iload hx hb dX7_begin_68 (lv_at hl 0 rfl) ?_
  refine lv_iconst (v := 0) hx hb dX7_begin_70 (by decide) ?_
  refine va_zast hx hb hK hP hD hS 1 0 rfl rfl (show vp_in 32 60 by rw [vp_in_iff]; decide) dX7_begin_71 (fun H locs hP hD hS => ?_)
  have hP : va_P (dC, dI) vwP [(q_60, .inr (7, [.int 0, .ref q_1, .int 0, .int 0, .int 1, .int 0, .int 0, .int 0, .ref q_3, .int 0, .int 0, .int 0, .int 0, .long 0, .int 0, .int (-1), .ref q_62, .ref q_63])), (q_62, .inl (cA_64, 60, .inl (upd f_65 (32 : Int32).toNatClampNeg (vp_nar .boolean 0)))), (q_63, .inl (cA_65, 60, .inl f_66)), (q_3, .inr (0, [.int 0, .int 0, .int 0, .int 0, .ref q_4, .ref q_5, .ref q_6, .ref q_7, .ref q_8, .ref q_9, .ref q_10, .ref q_11, .ref q_12, .ref q_13, .ref q_14, .ref q_15, .ref q_16, .ref q_17, .ref q_18])), (q_4, .inl (cA_19, 301, .inl g0_1)), (q_15, .inl (cA_20, 301, .inl g1_2))] H := hP
  have hD : va_D A [(q_60, .inr (7, [.int 0, .ref q_1, .int 0, .int 0, .int 1, .int 0, .int 0, .int 0, .ref q_3, .int 0, .int 0, .int 0, .int 0, .long 0, .int 0, .int (-1), .ref q_62, .ref q_63])), (q_62, .inl (cA_64, 60, .inl (upd f_65 (32 : Int32).toNatClampNeg (vp_nar .boolean 0)))), (q_63, .inl (cA_65, 60, .inl f_66)), (q_3, .inr (0, [.int 0, .int 0, .int 0, .int 0, .ref q_4, .ref q_5, .ref q_6, .ref q_7, .ref q_8, .ref q_9, .ref q_10, .ref q_11, .ref q_12, .ref q_13, .ref q_14, .ref q_15, .ref q_16, .ref q_17, .ref q_18])), (q_4, .inl (cA_19, 301, .inl g0_1)), (q_15, .inl (cA_20, 301, .inl g1_2))] := hD
  generalize (upd f_65 (32 : Int32).toNatClampNeg (vp_nar .boolean 0)) = f_67 at hP hD
  refine lv_aload_n hx hb dX7_begin_72 rfl (lv_at hl 1 rfl) ?_
  refine va_get (D := (dC, dI)) (ci := 7) (v := .ref q_63) (C := RX7) (T := TX7) (N := 18) hx hb hts mem_X7_begin_0 hown hK hP 0 rfl rfl 17 (by decide) (ow (k := 15) rfl) (fun _ h9 => h9) rfl dX7_begin_73 ?_
  refine lv_iload hx hb dX7_begin_76 (lv_at hl 0 rfl) ?_
  refine lv_iconst (v := (-1)) hx hb dX7_begin_78 (by decide) ?_
  refine va_iast hx hb hK hP hD hS 2 1 rfl rfl (show vp_in 32 60 by rw [vp_in_iff]; decide) dX7_begin_79 (fun H locs hP hD hS => ?_)
  have hP : va_P (dC, dI) vwP [(q_60, .inr (7, [.int 0, .ref q_1, .int 0, .int 0, .int 1, .int 0, .int 0, .int 0, .ref q_3, .int 0, .int 0, .int 0, .int 0, .long 0, .int 0, .int (-1), .ref q_62, .ref q_63])), (q_62, .inl (cA_64, 60, .inl f_67)), (q_63, .inl (cA_65, 60, .inl (upd f_66 (32 : Int32).toNatClampNeg (-1)))), (q_3, .inr (0, [.int 0, .int 0, .int 0, .int 0, .ref q_4, .ref q_5, .ref q_6, .ref q_7, .ref q_8, .ref q_9, .ref q_10, .ref q_11, .ref q_12, .ref q_13, .ref q_14, .ref q_15, .ref q_16, .ref q_17, .ref q_18])), (q_4, .inl (cA_19, 301, .inl g0_1)), (q_15, .inl (cA_20, 301, .inl g1_2))] H := hP
  have hD : va_D A [(q_60, .inr (7, [.int 0, .ref q_1, .int 0, .int 0, .int 1, .int 0, .int 0, .int 0, .ref q_3, .int 0, .int 0, .int 0, .int 0, .long 0, .int 0, .int (-1), .ref q_62, .ref q_63])), (q_62, .inl (cA_64, 60, .inl f_67)), (q_63, .inl (cA_65, 60, .inl (upd f_66 (32 : Int32).toNatClampNeg (-1)))), (q_3, .inr (0, [.int 0, .int 0, .int 0, .int 0, .ref q_4, .ref q_5, .ref q_6, .ref q_7, .ref q_8, .ref q_9, .ref q_10, .ref q_11, .ref q_12, .ref q_13, .ref q_14, .ref q_15, .ref q_16, .ref q_17, .ref q_18])), (q_4, .inl (cA_19, 301, .inl g0_1)), (q_15, .inl (cA_20, 301, .inl g1_2))] := hD
  generalize (upd f_66 (32 : Int32).toNatClampNeg (-1)) = f_68 at hP hD
  refine lv_iinc (v := 33) (lv' := [(4, .int 33), (0, .ref q_60), (1, .ref q_1), (2, .int 0), (3, .ref q_3)]) hx hb dX7_begin_80 hl (k := 0) rfl (by decide) (by decide) rfl (fun ls hl => ?_)
  refine lv_goto (tgt := 57) hx hb dX7_begin_83 (by decide) ?_
  refine lv_iload hx hb dX7_begin_57 (lv_at hl 0 rfl) ?_
  refine lv_bipush (v := 60) hx hb dX7_begin_59 (by decide) ?_
  refine lv_icmp_ge (tgt := 86) hx hb dX7_begin_61 (by decide) (fun h9 => absurd h9 (by decide)) (fun _ => ?_)
  refine lv_aload_n hx hb dX7_begin_64 rfl (lv_at hl 1 rfl) ?_
  refine va_get (D := (dC, dI)) (ci := 7) (v := .ref q_62) (C := RX7) (T := TX7) (N := 18) hx hb hts mem_X7_begin_0 hown hK hP 0 rfl rfl 16 (by decide) (ow (k := 14) rfl) (fun _ h9 => h9) rfl dX7_begin_65 ?_
  refine lv_iload hx hb dX7_begin_68 (lv_at hl 0 rfl) ?_
  refine lv_iconst (v := 0) hx hb dX7_begin_70 (by decide) ?_
  refine va_zast hx hb hK hP hD hS 1 0 rfl rfl (show vp_in 33 60 by rw [vp_in_iff]; decide) dX7_begin_71 (fun H locs hP hD hS => ?_)
  have hP : va_P (dC, dI) vwP [(q_60, .inr (7, [.int 0, .ref q_1, .int 0, .int 0, .int 1, .int 0, .int 0, .int 0, .ref q_3, .int 0, .int 0, .int 0, .int 0, .long 0, .int 0, .int (-1), .ref q_62, .ref q_63])), (q_62, .inl (cA_64, 60, .inl (upd f_67 (33 : Int32).toNatClampNeg (vp_nar .boolean 0)))), (q_63, .inl (cA_65, 60, .inl f_68)), (q_3, .inr (0, [.int 0, .int 0, .int 0, .int 0, .ref q_4, .ref q_5, .ref q_6, .ref q_7, .ref q_8, .ref q_9, .ref q_10, .ref q_11, .ref q_12, .ref q_13, .ref q_14, .ref q_15, .ref q_16, .ref q_17, .ref q_18])), (q_4, .inl (cA_19, 301, .inl g0_1)), (q_15, .inl (cA_20, 301, .inl g1_2))] H := hP
  have hD : va_D A [(q_60, .inr (7, [.int 0, .ref q_1, .int 0, .int 0, .int 1, .int 0, .int 0, .int 0, .ref q_3, .int 0, .int 0, .int 0, .int 0, .long 0, .int 0, .int (-1), .ref q_62, .ref q_63])), (q_62, .inl (cA_64, 60, .inl (upd f_67 (33 : Int32).toNatClampNeg (vp_nar .boolean 0)))), (q_63, .inl (cA_65, 60, .inl f_68)), (q_3, .inr (0, [.int 0, .int 0, .int 0, .int 0, .ref q_4, .ref q_5, .ref q_6, .ref q_7, .ref q_8, .ref q_9, .ref q_10, .ref q_11, .ref q_12, .ref q_13, .ref q_14, .ref q_15, .ref q_16, .ref q_17, .ref q_18])), (q_4, .inl (cA_19, 301, .inl g0_1)), (q_15, .inl (cA_20, 301, .inl g1_2))] := hD
  generalize (upd f_67 (33 : Int32).toNatClampNeg (vp_nar .boolean 0)) = f_69 at hP hD
  refine lv_aload_n hx hb dX7_begin_72 rfl (lv_at hl 1 rfl) ?_
  refine va_get (D := (dC, dI)) (ci := 7) (v := .ref q_63) (C := RX7) (T := TX7) (N := 18) hx hb hts mem_X7_begin_0 hown hK hP 0 rfl rfl 17 (by decide) (ow (k := 15) rfl) (fun _ h9 => h9) rfl dX7_begin_73 ?_
  refine lv_iload hx hb dX7_begin_76 (lv_at hl 0 rfl) ?_
  refine lv_iconst (v := (-1)) hx hb dX7_begin_78 (by decide) ?_
  refine va_iast hx hb hK hP hD hS 2 1 rfl rfl (show vp_in 33 60 by rw [vp_in_iff]; decide) dX7_begin_79 (fun H locs hP hD hS => ?_)
  have hP : va_P (dC, dI) vwP [(q_60, .inr (7, [.int 0, .ref q_1, .int 0, .int 0, .int 1, .int 0, .int 0, .int 0, .ref q_3, .int 0, .int 0, .int 0, .int 0, .long 0, .int 0, .int (-1), .ref q_62, .ref q_63])), (q_62, .inl (cA_64, 60, .inl f_69)), (q_63, .inl (cA_65, 60, .inl (upd f_68 (33 : Int32).toNatClampNeg (-1)))), (q_3, .inr (0, [.int 0, .int 0, .int 0, .int 0, .ref q_4, .ref q_5, .ref q_6, .ref q_7, .ref q_8, .ref q_9, .ref q_10, .ref q_11, .ref q_12, .ref q_13, .ref q_14, .ref q_15, .ref q_16, .ref q_17, .ref q_18])), (q_4, .inl (cA_19, 301, .inl g0_1)), (q_15, .inl (cA_20, 301, .inl g1_2))] H := hP
  have hD : va_D A [(q_60, .inr (7, [.int 0, .ref q_1, .int 0, .int 0, .int 1, .int 0, .int 0, .int 0, .ref q_3, .int 0, .int 0, .int 0, .int 0, .long 0, .int 0, .int (-1), .ref q_62, .ref q_63])), (q_62, .inl (cA_64, 60, .inl f_69)), (q_63, .inl (cA_65, 60, .inl (upd f_68 (33 : Int32).toNatClampNeg (-1)))), (q_3, .inr (0, [.int 0, .int 0, .int 0, .int 0, .ref q_4, .ref q_5, .ref q_6, .ref q_7, .ref q_8, .ref q_9, .ref q_10, .ref q_11, .ref q_12, .ref q_13, .ref q_14, .ref q_15, .ref q_16, .ref q_17, .ref q_18])), (q_4, .inl (cA_19, 301, .inl g0_1)), (q_15, .inl (cA_20, 301, .inl g1_2))] := hD
  generalize (upd f_68 (33 : Int32).toNatClampNeg (-1)) = f_70 at hP hD
  refine lv_iinc (v := 34) (lv' := [(4, .int 34), (0, .ref q_60), (1, .ref q_1), (2, .int 0), (3, .ref q_3)]) hx hb dX7_begin_80 hl (k := 0) rfl (by decide) (by decide) rfl (fun ls hl => ?_)
  refine lv_goto (tgt := 57) hx hb dX7_begin_83 (by decide) ?_
  refine lv_iload hx hb dX7_begin_57 (lv_at hl 0 rfl) ?_
  refine lv_bipush (v := 60) hx hb dX7_begin_59 (by decide) ?_
  refine lv_icmp_ge (tgt := 86) hx hb dX7_begin_61 (by decide) (fun h9 => absurd h9 (by decide)) (fun _ => ?_)
  refine lv_aload_n hx hb dX7_begin_64 rfl (lv_at hl 1 rfl) ?_
  refine va_get (D := (dC, dI)) (ci := 7) (v := .ref q_62) (C := RX7) (T := TX7) (N := 18) hx hb hts mem_X7_begin_0 hown hK hP 0 rfl rfl 16 (by decide) (ow (k := 14) rfl) (fun _ h9 => h9) rfl dX7_begin_65 ?_
  refine lv_iload hx hb dX7_begin_68 (lv_at hl 0 rfl) ?_
  refine lv_iconst (v := 0) hx hb dX7_begin_70 (by decide) ?_
  refine va_zast hx hb hK hP hD hS 1 0 rfl rfl (show vp_in 34 60 by rw [vp_in_iff]; decide) dX7_begin_71 (fun H locs hP hD hS => ?_)
  have hP : va_P (dC, dI) vwP [(q_60, .inr (7, [.int 0, .ref q_1, .int 0, .int 0, .int 1, .int 0, .int 0, .int 0, .ref q_3, .int 0, .int 0, .int 0, .int 0, .long 0, .int 0, .int (-1), .ref q_62, .ref q_63])), (q_62, .inl (cA_64, 60, .inl (upd f_69 (34 : Int32).toNatClampNeg (vp_nar .boolean 0)))), (q_63, .inl (cA_65, 60, .inl f_70)), (q_3, .inr (0, [.int 0, .int 0, .int 0, .int 0, .ref q_4, .ref q_5, .ref q_6, .ref q_7, .ref q_8, .ref q_9, .ref q_10, .ref q_11, .ref q_12, .ref q_13, .ref q_14, .ref q_15, .ref q_16, .ref q_17, .ref q_18])), (q_4, .inl (cA_19, 301, .inl g0_1)), (q_15, .inl (cA_20, 301, .inl g1_2))] H := hP
  have hD : va_D A [(q_60, .inr (7, [.int 0, .ref q_1, .int 0, .int 0, .int 1, .int 0, .int 0, .int 0, .ref q_3, .int 0, .int 0, .int 0, .int 0, .long 0, .int 0, .int (-1), .ref q_62, .ref q_63])), (q_62, .inl (cA_64, 60, .inl (upd f_69 (34 : Int32).toNatClampNeg (vp_nar .boolean 0)))), (q_63, .inl (cA_65, 60, .inl f_70)), (q_3, .inr (0, [.int 0, .int 0, .int 0, .int 0, .ref q_4, .ref q_5, .ref q_6, .ref q_7, .ref q_8, .ref q_9, .ref q_10, .ref q_11, .ref q_12, .ref q_13, .ref q_14, .ref q_15, .ref q_16, .ref q_17, .ref q_18])), (q_4, .inl (cA_19, 301, .inl g0_1)), (q_15, .inl (cA_20, 301, .inl g1_2))] := hD
  generalize (upd f_69 (34 : Int32).toNatClampNeg (vp_nar .boolean 0)) = f_71 at hP hD
  refine lv_aload_n hx hb dX7_begin_72 rfl (lv_at hl 1 rfl) ?_
  refine va_get (D := (dC, dI)) (ci := 7) (v := .ref q_63) (C := RX7) (T := TX7) (N := 18) hx hb hts mem_X7_begin_0 hown hK hP 0 rfl rfl 17 (by decide) (ow (k := 15) rfl) (fun _ h9 => h9) rfl dX7_begin_73 ?_
  refine lv_iload hx hb dX7_begin_76 (lv_at hl 0 rfl) ?_
  refine lv_iconst (v := (-1)) hx hb dX7_begin_78 (by decide) ?_
  refine va_iast hx hb hK hP hD hS 2 1 rfl rfl (show vp_in 34 60 by rw [vp_in_iff]; decide) dX7_begin_79 (fun H locs hP hD hS => ?_)
  have hP : va_P (dC, dI) vwP [(q_60, .inr (7, [.int 0, .ref q_1, .int 0, .int 0, .int 1, .int 0, .int 0, .int 0, .ref q_3, .int 0, .int 0, .int 0, .int 0, .long 0, .int 0, .int (-1), .ref q_62, .ref q_63])), (q_62, .inl (cA_64, 60, .inl f_71)), (q_63, .inl (cA_65, 60, .inl (upd f_70 (34 : Int32).toNatClampNeg (-1)))), (q_3, .inr (0, [.int 0, .int 0, .int 0, .int 0, .ref q_4, .ref q_5, .ref q_6, .ref q_7, .ref q_8, .ref q_9, .ref q_10, .ref q_11, .ref q_12, .ref q_13, .ref q_14, .ref q_15, .ref q_16, .ref q_17, .ref q_18])), (q_4, .inl (cA_19, 301, .inl g0_1)), (q_15, .inl (cA_20, 301, .inl g1_2))] H := hP
  have hD : va_D A [(q_60, .inr (7, [.int 0, .ref q_1, .int 0, .int 0, .int 1, .int 0, .int 0, .int 0, .ref q_3, .int 0, .int 0, .int 0, .int 0, .long 0, .int 0, .int (-1), .ref q_62, .ref q_63])), (q_62, .inl (cA_64, 60, .inl f_71)), (q_63, .inl (cA_65, 60, .inl (upd f_70 (34 : Int32).toNatClampNeg (-1)))), (q_3, .inr (0, [.int 0, .int 0, .int 0, .int 0, .ref q_4, .ref q_5, .ref q_6, .ref q_7, .ref q_8, .ref q_9, .ref q_10, .ref q_11, .ref q_12, .ref q_13, .ref q_14, .ref q_15, .ref q_16, .ref q_17, .ref q_18])), (q_4, .inl (cA_19, 301, .inl g0_1)), (q_15, .inl (cA_20, 301, .inl g1_2))] := hD
  generalize (upd f_70 (34 : Int32).toNatClampNeg (-1)) = f_72 at hP hD
  refine lv_iinc (v := 35) (lv' := [(4, .int 35), (0, .ref q_60), (1, .ref q_1), (2, .int 0), (3, .ref q_3)]) hx hb dX7_begin_80 hl (k := 0) rfl (by decide) (by decide) rfl (fun ls hl => ?_)
  refine lv_goto (tgt := 57) hx hb dX7_begin_83 (by decide) ?_
  refine lv_iload hx hb dX7_begin_57 (lv_at hl 0 rfl) ?_
  refine lv_bipush (v := 60) hx hb dX7_begin_59 (by decide) ?_
  refine lv_icmp_ge (tgt := 86) hx hb dX7_begin_61 (by decide) (fun h9 => absurd h9 (by decide)) (fun _ => ?_)
  refine lv_aload_n hx hb dX7_begin_64 rfl (lv_at hl 1 rfl) ?_
  refine va_get (D := (dC, dI)) (ci := 7) (v := .ref q_62) (C := RX7) (T := TX7) (N := 18) hx hb hts mem_X7_begin_0 hown hK hP 0 rfl rfl 16 (by decide) (ow (k := 14) rfl) (fun _ h9 => h9) rfl dX7_begin_65 ?_
  refine lv_iload hx hb dX7_begin_68 (lv_at hl 0 rfl) ?_
  refine lv_iconst (v := 0) hx hb dX7_begin_70 (by decide) ?_
  refine va_zast hx hb hK hP hD hS 1 0 rfl rfl (show vp_in 35 60 by rw [vp_in_iff]; decide) dX7_begin_71 (fun H locs hP hD hS => ?_)
  have hP : va_P (dC, dI) vwP [(q_60, .inr (7, [.int 0, .ref q_1, .int 0, .int 0, .int 1, .int 0, .int 0, .int 0, .ref q_3, .int 0, .int 0, .int 0, .int 0, .long 0, .int 0, .int (-1), .ref q_62, .ref q_63])), (q_62, .inl (cA_64, 60, .inl (upd f_71 (35 : Int32).toNatClampNeg (vp_nar .boolean 0)))), (q_63, .inl (cA_65, 60, .inl f_72)), (q_3, .inr (0, [.int 0, .int 0, .int 0, .int 0, .ref q_4, .ref q_5, .ref q_6, .ref q_7, .ref q_8, .ref q_9, .ref q_10, .ref q_11, .ref q_12, .ref q_13, .ref q_14, .ref q_15, .ref q_16, .ref q_17, .ref q_18])), (q_4, .inl (cA_19, 301, .inl g0_1)), (q_15, .inl (cA_20, 301, .inl g1_2))] H := hP
  have hD : va_D A [(q_60, .inr (7, [.int 0, .ref q_1, .int 0, .int 0, .int 1, .int 0, .int 0, .int 0, .ref q_3, .int 0, .int 0, .int 0, .int 0, .long 0, .int 0, .int (-1), .ref q_62, .ref q_63])), (q_62, .inl (cA_64, 60, .inl (upd f_71 (35 : Int32).toNatClampNeg (vp_nar .boolean 0)))), (q_63, .inl (cA_65, 60, .inl f_72)), (q_3, .inr (0, [.int 0, .int 0, .int 0, .int 0, .ref q_4, .ref q_5, .ref q_6, .ref q_7, .ref q_8, .ref q_9, .ref q_10, .ref q_11, .ref q_12, .ref q_13, .ref q_14, .ref q_15, .ref q_16, .ref q_17, .ref q_18])), (q_4, .inl (cA_19, 301, .inl g0_1)), (q_15, .inl (cA_20, 301, .inl g1_2))] := hD
  generalize (upd f_71 (35 : Int32).toNatClampNeg (vp_nar .boolean 0)) = f_73 at hP hD
  refine lv_aload_n hx hb dX7_begin_72 rfl (lv_at hl 1 rfl) ?_
  refine va_get (D := (dC, dI)) (ci := 7) (v := .ref q_63) (C := RX7) (T := TX7) (N := 18) hx hb hts mem_X7_begin_0 hown hK hP 0 rfl rfl 17 (by decide) (ow (k := 15) rfl) (fun _ h9 => h9) rfl dX7_begin_73 ?_
  refine lv_iload hx hb dX7_begin_76 (lv_at hl 0 rfl) ?_
  refine lv_iconst (v := (-1)) hx hb dX7_begin_78 (by decide) ?_
  refine va_iast hx hb hK hP hD hS 2 1 rfl rfl (show vp_in 35 60 by rw [vp_in_iff]; decide) dX7_begin_79 (fun H locs hP hD hS => ?_)
  have hP : va_P (dC, dI) vwP [(q_60, .inr (7, [.int 0, .ref q_1, .int 0, .int 0, .int 1, .int 0, .int 0, .int 0, .ref q_3, .int 0, .int 0, .int 0, .int 0, .long 0, .int 0, .int (-1), .ref q_62, .ref q_63])), (q_62, .inl (cA_64, 60, .inl f_73)), (q_63, .inl (cA_65, 60, .inl (upd f_72 (35 : Int32).toNatClampNeg (-1)))), (q_3, .inr (0, [.int 0, .int 0, .int 0, .int 0, .ref q_4, .ref q_5, .ref q_6, .ref q_7, .ref q_8, .ref q_9, .ref q_10, .ref q_11, .ref q_12, .ref q_13, .ref q_14, .ref q_15, .ref q_16, .ref q_17, .ref q_18])), (q_4, .inl (cA_19, 301, .inl g0_1)), (q_15, .inl (cA_20, 301, .inl g1_2))] H := hP
  have hD : va_D A [(q_60, .inr (7, [.int 0, .ref q_1, .int 0, .int 0, .int 1, .int 0, .int 0, .int 0, .ref q_3, .int 0, .int 0, .int 0, .int 0, .long 0, .int 0, .int (-1), .ref q_62, .ref q_63])), (q_62, .inl (cA_64, 60, .inl f_73)), (q_63, .inl (cA_65, 60, .inl (upd f_72 (35 : Int32).toNatClampNeg (-1)))), (q_3, .inr (0, [.int 0, .int 0, .int 0, .int 0, .ref q_4, .ref q_5, .ref q_6, .ref q_7, .ref q_8, .ref q_9, .ref q_10, .ref q_11, .ref q_12, .ref q_13, .ref q_14, .ref q_15, .ref q_16, .ref q_17, .ref q_18])), (q_4, .inl (cA_19, 301, .inl g0_1)), (q_15, .inl (cA_20, 301, .inl g1_2))] := hD
  generalize (upd f_72 (35 : Int32).toNatClampNeg (-1)) = f_74 at hP hD
  refine lv_iinc (v := 36) (lv' := [(4, .int 36), (0, .ref q_60), (1, .ref q_1), (2, .int 0), (3, .ref q_3)]) hx hb dX7_begin_80 hl (k := 0) rfl (by decide) (by decide) rfl (fun ls hl => ?_)
  refine lv_goto (tgt := 57) hx hb dX7_begin_83 (by decide) ?_
  refine lv_iload hx hb dX7_begin_57 (lv_at hl 0 rfl) ?_
  refine lv_bipush (v := 60) hx hb dX7_begin_59 (by decide) ?_
  refine lv_icmp_ge (tgt := 86) hx hb dX7_begin_61 (by decide) (fun h9 => absurd h9 (by decide)) (fun _ => ?_)
  refine lv_aload_n hx hb dX7_begin_64 rfl (lv_at hl 1 rfl) ?_
  refine va_get (D := (dC, dI)) (ci := 7) (v := .ref q_62) (C := RX7) (T := TX7) (N := 18) hx hb hts mem_X7_begin_0 hown hK hP 0 rfl rfl 16 (by decide) (ow (k := 14) rfl) (fun _ h9 => h9) rfl dX7_begin_65 ?_
  refine lv_iload hx hb dX7_begin_68 (lv_at hl 0 rfl) ?_
  refine lv_iconst (v := 0) hx hb dX7_begin_70 (by decide) ?_
  refine va_zast hx hb hK hP hD hS 1 0 rfl rfl (show vp_in 36 60 by rw [vp_in_iff]; decide) dX7_begin_71 (fun H locs hP hD hS => ?_)
  have hP : va_P (dC, dI) vwP [(q_60, .inr (7, [.int 0, .ref q_1, .int 0, .int 0, .int 1, .int 0, .int 0, .int 0, .ref q_3, .int 0, .int 0, .int 0, .int 0, .long 0, .int 0, .int (-1), .ref q_62, .ref q_63])), (q_62, .inl (cA_64, 60, .inl (upd f_73 (36 : Int32).toNatClampNeg (vp_nar .boolean 0)))), (q_63, .inl (cA_65, 60, .inl f_74)), (q_3, .inr (0, [.int 0, .int 0, .int 0, .int 0, .ref q_4, .ref q_5, .ref q_6, .ref q_7, .ref q_8, .ref q_9, .ref q_10, .ref q_11, .ref q_12, .ref q_13, .ref q_14, .ref q_15, .ref q_16, .ref q_17, .ref q_18])), (q_4, .inl (cA_19, 301, .inl g0_1)), (q_15, .inl (cA_20, 301, .inl g1_2))] H := hP
  have hD : va_D A [(q_60, .inr (7, [.int 0, .ref q_1, .int 0, .int 0, .int 1, .int 0, .int 0, .int 0, .ref q_3, .int 0, .int 0, .int 0, .int 0, .long 0, .int 0, .int (-1), .ref q_62, .ref q_63])), (q_62, .inl (cA_64, 60, .inl (upd f_73 (36 : Int32).toNatClampNeg (vp_nar .boolean 0)))), (q_63, .inl (cA_65, 60, .inl f_74)), (q_3, .inr (0, [.int 0, .int 0, .int 0, .int 0, .ref q_4, .ref q_5, .ref q_6, .ref q_7, .ref q_8, .ref q_9, .ref q_10, .ref q_11, .ref q_12, .ref q_13, .ref q_14, .ref q_15, .ref q_16, .ref q_17, .ref q_18])), (q_4, .inl (cA_19, 301, .inl g0_1)), (q_15, .inl (cA_20, 301, .inl g1_2))] := hD
  generalize (upd f_73 (36 : Int32).toNatClampNeg (vp_nar .boolean 0)) = f_75 at hP hD
  refine lv_aload_n hx hb dX7_begin_72 rfl (lv_at hl 1 rfl) ?_
  refine va_get (D := (dC, dI)) (ci := 7) (v := .ref q_63) (C := RX7) (T := TX7) (N := 18) hx hb hts mem_X7_begin_0 hown hK hP 0 rfl rfl 17 (by decide) (ow (k := 15) rfl) (fun _ h9 => h9) rfl dX7_begin_73 ?_
  refine lv_iload hx hb dX7_begin_76 (lv_at hl 0 rfl) ?_
  refine lv_iconst (v := (-1)) hx hb dX7_begin_78 (by decide) ?_
  refine va_iast hx hb hK hP hD hS 2 1 rfl rfl (show vp_in 36 60 by rw [vp_in_iff]; decide) dX7_begin_79 (fun H locs hP hD hS => ?_)
  have hP : va_P (dC, dI) vwP [(q_60, .inr (7, [.int 0, .ref q_1, .int 0, .int 0, .int 1, .int 0, .int 0, .int 0, .ref q_3, .int 0, .int 0, .int 0, .int 0, .long 0, .int 0, .int (-1), .ref q_62, .ref q_63])), (q_62, .inl (cA_64, 60, .inl f_75)), (q_63, .inl (cA_65, 60, .inl (upd f_74 (36 : Int32).toNatClampNeg (-1)))), (q_3, .inr (0, [.int 0, .int 0, .int 0, .int 0, .ref q_4, .ref q_5, .ref q_6, .ref q_7, .ref q_8, .ref q_9, .ref q_10, .ref q_11, .ref q_12, .ref q_13, .ref q_14, .ref q_15, .ref q_16, .ref q_17, .ref q_18])), (q_4, .inl (cA_19, 301, .inl g0_1)), (q_15, .inl (cA_20, 301, .inl g1_2))] H := hP
  have hD : va_D A [(q_60, .inr (7, [.int 0, .ref q_1, .int 0, .int 0, .int 1, .int 0, .int 0, .int 0, .ref q_3, .int 0, .int 0, .int 0, .int 0, .long 0, .int 0, .int (-1), .ref q_62, .ref q_63])), (q_62, .inl (cA_64, 60, .inl f_75)), (q_63, .inl (cA_65, 60, .inl (upd f_74 (36 : Int32).toNatClampNeg (-1)))), (q_3, .inr (0, [.int 0, .int 0, .int 0, .int 0, .ref q_4, .ref q_5, .ref q_6, .ref q_7, .ref q_8, .ref q_9, .ref q_10, .ref q_11, .ref q_12, .ref q_13, .ref q_14, .ref q_15, .ref q_16, .ref q_17, .ref q_18])), (q_4, .inl (cA_19, 301, .inl g0_1)), (q_15, .inl (cA_20, 301, .inl g1_2))] := hD
  generalize (upd f_74 (36 : Int32).toNatClampNeg (-1)) = f_76 at hP hD
  refine lv_iinc (v := 37) (lv' := [(4, .int 37), (0, .ref q_60), (1, .ref q_1), (2, .int 0), (3, .ref q_3)]) hx hb dX7_begin_80 hl (k := 0) rfl (by decide) (by decide) rfl (fun ls hl => ?_)
  refine lv_goto (tgt := 57) hx hb dX7_begin_83 (by decide) ?_
  refine lv_iload hx hb dX7_begin_57 (lv_at hl 0 rfl) ?_
  refine lv_bipush (v := 60) hx hb dX7_begin_59 (by decide) ?_
  refine lv_icmp_ge (tgt := 86) hx hb dX7_begin_61 (by decide) (fun h9 => absurd h9 (by decide)) (fun _ => ?_)
  refine lv_aload_n hx hb dX7_begin_64 rfl (lv_at hl 1 rfl) ?_
  refine va_get (D := (dC, dI)) (ci := 7) (v := .ref q_62) (C := RX7) (T := TX7) (N := 18) hx hb hts mem_X7_begin_0 hown hK hP 0 rfl rfl 16 (by decide) (ow (k := 14) rfl) (fun _ h9 => h9) rfl dX7_begin_65 ?_
  refine lv_iload hx hb dX7_begin_68 (lv_at hl 0 rfl) ?_
  refine lv_iconst (v := 0) hx hb dX7_begin_70 (by decide) ?_
  refine va_zast hx hb hK hP hD hS 1 0 rfl rfl (show vp_in 37 60 by rw [vp_in_iff]; decide) dX7_begin_71 (fun H locs hP hD hS => ?_)
  have hP : va_P (dC, dI) vwP [(q_60, .inr (7, [.int 0, .ref q_1, .int 0, .int 0, .int 1, .int 0, .int 0, .int 0, .ref q_3, .int 0, .int 0, .int 0, .int 0, .long 0, .int 0, .int (-1), .ref q_62, .ref q_63])), (q_62, .inl (cA_64, 60, .inl (upd f_75 (37 : Int32).toNatClampNeg (vp_nar .boolean 0)))), (q_63, .inl (cA_65, 60, .inl f_76)), (q_3, .inr (0, [.int 0, .int 0, .int 0, .int 0, .ref q_4, .ref q_5, .ref q_6, .ref q_7, .ref q_8, .ref q_9, .ref q_10, .ref q_11, .ref q_12, .ref q_13, .ref q_14, .ref q_15, .ref q_16, .ref q_17, .ref q_18])), (q_4, .inl (cA_19, 301, .inl g0_1)), (q_15, .inl (cA_20, 301, .inl g1_2))] H := hP
  have hD : va_D A [(q_60, .inr (7, [.int 0, .ref q_1, .int 0, .int 0, .int 1, .int 0, .int 0, .int 0, .ref q_3, .int 0, .int 0, .int 0, .int 0, .long 0, .int 0, .int (-1), .ref q_62, .ref q_63])), (q_62, .inl (cA_64, 60, .inl (upd f_75 (37 : Int32).toNatClampNeg (vp_nar .boolean 0)))), (q_63, .inl (cA_65, 60, .inl f_76)), (q_3, .inr (0, [.int 0, .int 0, .int 0, .int 0, .ref q_4, .ref q_5, .ref q_6, .ref q_7, .ref q_8, .ref q_9, .ref q_10, .ref q_11, .ref q_12, .ref q_13, .ref q_14, .ref q_15, .ref q_16, .ref q_17, .ref q_18])), (q_4, .inl (cA_19, 301, .inl g0_1)), (q_15, .inl (cA_20, 301, .inl g1_2))] := hD
  generalize (upd f_75 (37 : Int32).toNatClampNeg (vp_nar .boolean 0)) = f_77 at hP hD
  refine lv_aload_n hx hb dX7_begin_72 rfl (lv_at hl 1 rfl) ?_
  refine va_get (D := (dC, dI)) (ci := 7) (v := .ref q_63) (C := RX7) (T := TX7) (N := 18) hx hb hts mem_X7_begin_0 hown hK hP 0 rfl rfl 17 (by decide) (ow (k := 15) rfl) (fun _ h9 => h9) rfl dX7_begin_73 ?_
  refine lv_iload hx hb dX7_begin_76 (lv_at hl 0 rfl) ?_
  refine lv_iconst (v := (-1)) hx hb dX7_begin_78 (by decide) ?_
  refine va_iast hx hb hK hP hD hS 2 1 rfl rfl (show vp_in 37 60 by rw [vp_in_iff]; decide) dX7_begin_79 (fun H locs hP hD hS => ?_)
  have hP : va_P (dC, dI) vwP [(q_60, .inr (7, [.int 0, .ref q_1, .int 0, .int 0, .int 1, .int 0, .int 0, .int 0, .ref q_3, .int 0, .int 0, .int 0, .int 0, .long 0, .int 0, .int (-1), .ref q_62, .ref q_63])), (q_62, .inl (cA_64, 60, .inl f_77)), (q_63, .inl (cA_65, 60, .inl (upd f_76 (37 : Int32).toNatClampNeg (-1)))), (q_3, .inr (0, [.int 0, .int 0, .int 0, .int 0, .ref q_4, .ref q_5, .ref q_6, .ref q_7, .ref q_8, .ref q_9, .ref q_10, .ref q_11, .ref q_12, .ref q_13, .ref q_14, .ref q_15, .ref q_16, .ref q_17, .ref q_18])), (q_4, .inl (cA_19, 301, .inl g0_1)), (q_15, .inl (cA_20, 301, .inl g1_2))] H := hP
  have hD : va_D A [(q_60, .inr (7, [.int 0, .ref q_1, .int 0, .int 0, .int 1, .int 0, .int 0, .int 0, .ref q_3, .int 0, .int 0, .int 0, .int 0, .long 0, .int 0, .int (-1), .ref q_62, .ref q_63])), (q_62, .inl (cA_64, 60, .inl f_77)), (q_63, .inl (cA_65, 60, .inl (upd f_76 (37 : Int32).toNatClampNeg (-1)))), (q_3, .inr (0, [.int 0, .int 0, .int 0, .int 0, .ref q_4, .ref q_5, .ref q_6, .ref q_7, .ref q_8, .ref q_9, .ref q_10, .ref q_11, .ref q_12, .ref q_13, .ref q_14, .ref q_15, .ref q_16, .ref q_17, .ref q_18])), (q_4, .inl (cA_19, 301, .inl g0_1)), (q_15, .inl (cA_20, 301, .inl g1_2))] := hD
  generalize (upd f_76 (37 : Int32).toNatClampNeg (-1)) = f_78 at hP hD
  refine lv_iinc (v := 38) (lv' := [(4, .int 38), (0, .ref q_60), (1, .ref q_1), (2, .int 0), (3, .ref q_3)]) hx hb dX7_begin_80 hl (k := 0) rfl (by decide) (by decide) rfl (fun ls hl => ?_)
  refine lv_goto (tgt := 57) hx hb dX7_begin_83 (by decide) ?_
  refine lv_iload hx hb dX7_begin_57 (lv_at hl 0 rfl) ?_
  refine lv_bipush (v := 60) hx hb dX7_begin_59 (by decide) ?_
  refine lv_icmp_ge (tgt := 86) hx hb dX7_begin_61 (by decide) (fun h9 => absurd h9 (by decide)) (fun _ => ?_)
  refine lv_aload_n hx hb dX7_begin_64 rfl (lv_at hl 1 rfl) ?_
  refine va_get (D := (dC, dI)) (ci := 7) (v := .ref q_62) (C := RX7) (T := TX7) (N := 18) hx hb hts mem_X7_begin_0 hown hK hP 0 rfl rfl 16 (by decide) (ow (k := 14) rfl) (fun _ h9 => h9) rfl dX7_begin_65 ?_
  refine lv_iload hx hb dX7_begin_68 (lv_at hl 0 rfl) ?_
  refine lv_iconst (v := 0) hx hb dX7_begin_70 (by decide) ?_
  refine va_zast hx hb hK hP hD hS 1 0 rfl rfl (show vp_in 38 60 by rw [vp_in_iff]; decide) dX7_begin_71 (fun H locs hP hD hS => ?_)
  have hP : va_P (dC, dI) vwP [(q_60, .inr (7, [.int 0, .ref q_1, .int 0, .int 0, .int 1, .int 0, .int 0, .int 0, .ref q_3, .int 0, .int 0, .int 0, .int 0, .long 0, .int 0, .int (-1), .ref q_62, .ref q_63])), (q_62, .inl (cA_64, 60, .inl (upd f_77 (38 : Int32).toNatClampNeg (vp_nar .boolean 0)))), (q_63, .inl (cA_65, 60, .inl f_78)), (q_3, .inr (0, [.int 0, .int 0, .int 0, .int 0, .ref q_4, .ref q_5, .ref q_6, .ref q_7, .ref q_8, .ref q_9, .ref q_10, .ref q_11, .ref q_12, .ref q_13, .ref q_14, .ref q_15, .ref q_16, .ref q_17, .ref q_18])), (q_4, .inl (cA_19, 301, .inl g0_1)), (q_15, .inl (cA_20, 301, .inl g1_2))] H := hP
  have hD : va_D A [(q_60, .inr (7, [.int 0, .ref q_1, .int 0, .int 0, .int 1, .int 0, .int 0, .int 0, .ref q_3, .int 0, .int 0, .int 0, .int 0, .long 0, .int 0, .int (-1), .ref q_62, .ref q_63])), (q_62, .inl (cA_64, 60, .inl (upd f_77 (38 : Int32).toNatClampNeg (vp_nar .boolean 0)))), (q_63, .inl (cA_65, 60, .inl f_78)), (q_3, .inr (0, [.int 0, .int 0, .int 0, .int 0, .ref q_4, .ref q_5, .ref q_6, .ref q_7, .ref q_8, .ref q_9, .ref q_10, .ref q_11, .ref q_12, .ref q_13, .ref q_14, .ref q_15, .ref q_16, .ref q_17, .ref q_18])), (q_4, .inl (cA_19, 301, .inl g0_1)), (q_15, .inl (cA_20, 301, .inl g1_2))] := hD
  generalize (upd f_77 (38 : Int32).toNatClampNeg (vp_nar .boolean 0)) = f_79 at hP hD
  refine lv_aload_n hx hb dX7_begin_72 rfl (lv_at hl 1 rfl) ?_
  refine va_get (D := (dC, dI)) (ci := 7) (v := .ref q_63) (C := RX7) (T := TX7) (N := 18) hx hb hts mem_X7_begin_0 hown hK hP 0 rfl rfl 17 (by decide) (ow (k := 15) rfl) (fun _ h9 => h9) rfl dX7_begin_73 ?_
  refine lv_iload hx hb dX7_begin_76 (lv_at hl 0 rfl) ?_
  refine lv_iconst (v := (-1)) hx hb dX7_begin_78 (by decide) ?_
  refine va_iast hx hb hK hP hD hS 2 1 rfl rfl (show vp_in 38 60 by rw [vp_in_iff]; decide) dX7_begin_79 (fun H locs hP hD hS => ?_)
  have hP : va_P (dC, dI) vwP [(q_60, .inr (7, [.int 0, .ref q_1, .int 0, .int 0, .int 1, .int 0, .int 0, .int 0, .ref q_3, .int 0, .int 0, .int 0, .int 0, .long 0, .int 0, .int (-1), .ref q_62, .ref q_63])), (q_62, .inl (cA_64, 60, .inl f_79)), (q_63, .inl (cA_65, 60, .inl (upd f_78 (38 : Int32).toNatClampNeg (-1)))), (q_3, .inr (0, [.int 0, .int 0, .int 0, .int 0, .ref q_4, .ref q_5, .ref q_6, .ref q_7, .ref q_8, .ref q_9, .ref q_10, .ref q_11, .ref q_12, .ref q_13, .ref q_14, .ref q_15, .ref q_16, .ref q_17, .ref q_18])), (q_4, .inl (cA_19, 301, .inl g0_1)), (q_15, .inl (cA_20, 301, .inl g1_2))] H := hP
  have hD : va_D A [(q_60, .inr (7, [.int 0, .ref q_1, .int 0, .int 0, .int 1, .int 0, .int 0, .int 0, .ref q_3, .int 0, .int 0, .int 0, .int 0, .long 0, .int 0, .int (-1), .ref q_62, .ref q_63])), (q_62, .inl (cA_64, 60, .inl f_79)), (q_63, .inl (cA_65, 60, .inl (upd f_78 (38 : Int32).toNatClampNeg (-1)))), (q_3, .inr (0, [.int 0, .int 0, .int 0, .int 0, .ref q_4, .ref q_5, .ref q_6, .ref q_7, .ref q_8, .ref q_9, .ref q_10, .ref q_11, .ref q_12, .ref q_13, .ref q_14, .ref q_15, .ref q_16, .ref q_17, .ref q_18])), (q_4, .inl (cA_19, 301, .inl g0_1)), (q_15, .inl (cA_20, 301, .inl g1_2))] := hD
  generalize (upd f_78 (38 : Int32).toNatClampNeg (-1)) = f_80 at hP hD
  refine lv_iinc (v := 39) (lv' := [(4, .int 39), (0, .ref q_60), (1, .ref q_1), (2, .int 0), (3, .ref q_3)]) hx hb dX7_begin_80 hl (k := 0) rfl (by decide) (by decide) rfl (fun ls hl => ?_)
  refine lv_goto (tgt := 57) hx hb dX7_begin_83 (by decide) ?_
  refine lv_iload hx hb dX7_begin_57 (lv_at hl 0 rfl) ?_
  refine lv_bipush (v := 60) hx hb dX7_begin_59 (by decide) ?_
  refine lv_icmp_ge (tgt := 86) hx hb dX7_begin_61 (by decide) (fun h9 => absurd h9 (by decide)) (fun _ => ?_)
  refine lv_aload_n hx hb dX7_begin_64 rfl (lv_at hl 1 rfl) ?_
  refine va_get (D := (dC, dI)) (ci := 7) (v := .ref q_62) (C := RX7) (T := TX7) (N := 18) hx hb hts mem_X7_begin_0 hown hK hP 0 rfl rfl 16 (by decide) (ow (k := 14) rfl) (fun _ h9 => h9) rfl dX7_begin_65 ?_
  refine lv_iload hx hb dX7_begin_68 (lv_at hl 0 rfl) ?_
  refine lv_iconst (v := 0) hx hb dX7_begin_70 (by decide) ?_
  refine va_zast hx hb hK hP hD hS 1 0 rfl rfl (show vp_in 39 60 by rw [vp_in_iff]; decide) dX7_begin_71 (fun H locs hP hD hS => ?_)
  have hP : va_P (dC, dI) vwP [(q_60, .inr (7, [.int 0, .ref q_1, .int 0, .int 0, .int 1, .int 0, .int 0, .int 0, .ref q_3, .int 0, .int 0, .int 0, .int 0, .long 0, .int 0, .int (-1), .ref q_62, .ref q_63])), (q_62, .inl (cA_64, 60, .inl (upd f_79 (39 : Int32).toNatClampNeg (vp_nar .boolean 0)))), (q_63, .inl (cA_65, 60, .inl f_80)), (q_3, .inr (0, [.int 0, .int 0, .int 0, .int 0, .ref q_4, .ref q_5, .ref q_6, .ref q_7, .ref q_8, .ref q_9, .ref q_10, .ref q_11, .ref q_12, .ref q_13, .ref q_14, .ref q_15, .ref q_16, .ref q_17, .ref q_18])), (q_4, .inl (cA_19, 301, .inl g0_1)), (q_15, .inl (cA_20, 301, .inl g1_2))] H := hP
  have hD : va_D A [(q_60, .inr (7, [.int 0, .ref q_1, .int 0, .int 0, .int 1, .int 0, .int 0, .int 0, .ref q_3, .int 0, .int 0, .int 0, .int 0, .long 0, .int 0, .int (-1), .ref q_62, .ref q_63])), (q_62, .inl (cA_64, 60, .inl (upd f_79 (39 : Int32).toNatClampNeg (vp_nar .boolean 0)))), (q_63, .inl (cA_65, 60, .inl f_80)), (q_3, .inr (0, [.int 0, .int 0, .int 0, .int 0, .ref q_4, .ref q_5, .ref q_6, .ref q_7, .ref q_8, .ref q_9, .ref q_10, .ref q_11, .ref q_12, .ref q_13, .ref q_14, .ref q_15, .ref q_16, .ref q_17, .ref q_18])), (q_4, .inl (cA_19, 301, .inl g0_1)), (q_15, .inl (cA_20, 301, .inl g1_2))] := hD
  generalize (upd f_79 (39 : Int32).toNatClampNeg (vp_nar .boolean 0)) = f_81 at hP hD
  refine lv_aload_n hx hb dX7_begin_72 rfl (lv_at hl 1 rfl) ?_
  refine va_get (D := (dC, dI)) (ci := 7) (v := .ref q_63) (C := RX7) (T := TX7) (N := 18) hx hb hts mem_X7_begin_0 hown hK hP 0 rfl rfl 17 (by decide) (ow (k := 15) rfl) (fun _ h9 => h9) rfl dX7_begin_73 ?_
  refine lv_iload hx hb dX7_begin_76 (lv_at hl 0 rfl) ?_
  refine lv_iconst (v := (-1)) hx hb dX7_begin_78 (by decide) ?_
  refine va_iast hx hb hK hP hD hS 2 1 rfl rfl (show vp_in 39 60 by rw [vp_in_iff]; decide) dX7_begin_79 (fun H locs hP hD hS => ?_)
  have hP : va_P (dC, dI) vwP [(q_60, .inr (7, [.int 0, .ref q_1, .int 0, .int 0, .int 1, .int 0, .int 0, .int 0, .ref q_3, .int 0, .int 0, .int 0, .int 0, .long 0, .int 0, .int (-1), .ref q_62, .ref q_63])), (q_62, .inl (cA_64, 60, .inl f_81)), (q_63, .inl (cA_65, 60, .inl (upd f_80 (39 : Int32).toNatClampNeg (-1)))), (q_3, .inr (0, [.int 0, .int 0, .int 0, .int 0, .ref q_4, .ref q_5, .ref q_6, .ref q_7, .ref q_8, .ref q_9, .ref q_10, .ref q_11, .ref q_12, .ref q_13, .ref q_14, .ref q_15, .ref q_16, .ref q_17, .ref q_18])), (q_4, .inl (cA_19, 301, .inl g0_1)), (q_15, .inl (cA_20, 301, .inl g1_2))] H := hP
  have hD : va_D A [(q_60, .inr (7, [.int 0, .ref q_1, .int 0, .int 0, .int 1, .int 0, .int 0, .int 0, .ref q_3, .int 0, .int 0, .int 0, .int 0, .long 0, .int 0, .int (-1), .ref q_62, .ref q_63])), (q_62, .inl (cA_64, 60, .inl f_81)), (q_63, .inl (cA_65, 60, .inl (upd f_80 (39 : Int32).toNatClampNeg (-1)))), (q_3, .inr (0, [.int 0, .int 0, .int 0, .int 0, .ref q_4, .ref q_5, .ref q_6, .ref q_7, .ref q_8, .ref q_9, .ref q_10, .ref q_11, .ref q_12, .ref q_13, .ref q_14, .ref q_15, .ref q_16, .ref q_17, .ref q_18])), (q_4, .inl (cA_19, 301, .inl g0_1)), (q_15, .inl (cA_20, 301, .inl g1_2))] := hD
  generalize (upd f_80 (39 : Int32).toNatClampNeg (-1)) = f_82 at hP hD
  refine lv_iinc (v := 40) (lv' := [(4, .int 40), (0, .ref q_60), (1, .ref q_1), (2, .int 0), (3, .ref q_3)]) hx hb dX7_begin_80 hl (k := 0) rfl (by decide) (by decide) rfl (fun ls hl => ?_)
  refine lv_goto (tgt := 57) hx hb dX7_begin_83 (by decide) ?_
  refine lv_iload hx hb dX7_begin_57 (lv_at hl 0 rfl) ?_
  refine lv_bipush (v := 60) hx hb dX7_begin_59 (by decide) ?_
  refine lv_icmp_ge (tgt := 86) hx hb dX7_begin_61 (by decide) (fun h9 => absurd h9 (by decide)) (fun _ => ?_)
  refine lv_aload_n hx hb dX7_begin_64 rfl (lv_at hl 1 rfl) ?_
  refine va_get (D := (dC, dI)) (ci := 7) (v := .ref q_62) (C := RX7) (T := TX7) (N := 18) hx hb hts mem_X7_begin_0 hown hK hP 0 rfl rfl 16 (by decide) (ow (k := 14) rfl) (fun _ h9 => h9) rfl dX7_begin_65 ?_
  refine lv_iload hx hb dX7_begin_68 (lv_at hl 0 rfl) ?_
  refine lv_iconst (v := 0) hx hb dX7_begin_70 (by decide) ?_
  refine va_zast hx hb hK hP hD hS 1 0 rfl rfl (show vp_in 40 60 by rw [vp_in_iff]; decide) dX7_begin_71 (fun H locs hP hD hS => ?_)
  have hP : va_P (dC, dI) vwP [(q_60, .inr (7, [.int 0, .ref q_1, .int 0, .int 0, .int 1, .int 0, .int 0, .int 0, .ref q_3, .int 0, .int 0, .int 0, .int 0, .long 0, .int 0, .int (-1), .ref q_62, .ref q_63])), (q_62, .inl (cA_64, 60, .inl (upd f_81 (40 : Int32).toNatClampNeg (vp_nar .boolean 0)))), (q_63, .inl (cA_65, 60, .inl f_82)), (q_3, .inr (0, [.int 0, .int 0, .int 0, .int 0, .ref q_4, .ref q_5, .ref q_6, .ref q_7, .ref q_8, .ref q_9, .ref q_10, .ref q_11, .ref q_12, .ref q_13, .ref q_14, .ref q_15, .ref q_16, .ref q_17, .ref q_18])), (q_4, .inl (cA_19, 301, .inl g0_1)), (q_15, .inl (cA_20, 301, .inl g1_2))] H := hP
  have hD : va_D A [(q_60, .inr (7, [.int 0, .ref q_1, .int 0, .int 0, .int 1, .int 0, .int 0, .int 0, .ref q_3, .int 0, .int 0, .int 0, .int 0, .long 0, .int 0, .int (-1), .ref q_62, .ref q_63])), (q_62, .inl (cA_64, 60, .inl (upd f_81 (40 : Int32).toNatClampNeg (vp_nar .boolean 0)))), (q_63, .inl (cA_65, 60, .inl f_82)), (q_3, .inr (0, [.int 0, .int 0, .int 0, .int 0, .ref q_4, .ref q_5, .ref q_6, .ref q_7, .ref q_8, .ref q_9, .ref q_10, .ref q_11, .ref q_12, .ref q_13, .ref q_14, .ref q_15, .ref q_16, .ref q_17, .ref q_18])), (q_4, .inl (cA_19, 301, .inl g0_1)), (q_15, .inl (cA_20, 301, .inl g1_2))] := hD
  generalize (upd f_81 (40 : Int32).toNatClampNeg (vp_nar .boolean 0)) = f_83 at hP hD
  refine lv_aload_n hx hb dX7_begin_72 rfl (lv_at hl 1 rfl) ?_
  refine va_get (D := (dC, dI)) (ci := 7) (v := .ref q_63) (C := RX7) (T := TX7) (N := 18) hx hb hts mem_X7_begin_0 hown hK hP 0 rfl rfl 17 (by decide) (ow (k := 15) rfl) (fun _ h9 => h9) rfl dX7_begin_73 ?_
  refine lv_iload hx hb dX7_begin_76 (lv_at hl 0 rfl) ?_
  refine lv_iconst (v := (-1)) hx hb dX7_begin_78 (by decide) ?_
  refine va_iast hx hb hK hP hD hS 2 1 rfl rfl (show vp_in 40 60 by rw [vp_in_iff]; decide) dX7_begin_79 (fun H locs hP hD hS => ?_)
  have hP : va_P (dC, dI) vwP [(q_60, .inr (7, [.int 0, .ref q_1, .int 0, .int 0, .int 1, .int 0, .int 0, .int 0, .ref q_3, .int 0, .int 0, .int 0, .int 0, .long 0, .int 0, .int (-1), .ref q_62, .ref q_63])), (q_62, .inl (cA_64, 60, .inl f_83)), (q_63, .inl (cA_65, 60, .inl (upd f_82 (40 : Int32).toNatClampNeg (-1)))), (q_3, .inr (0, [.int 0, .int 0, .int 0, .int 0, .ref q_4, .ref q_5, .ref q_6, .ref q_7, .ref q_8, .ref q_9, .ref q_10, .ref q_11, .ref q_12, .ref q_13, .ref q_14, .ref q_15, .ref q_16, .ref q_17, .ref q_18])), (q_4, .inl (cA_19, 301, .inl g0_1)), (q_15, .inl (cA_20, 301, .inl g1_2))] H := hP
  have hD : va_D A [(q_60, .inr (7, [.int 0, .ref q_1, .int 0, .int 0, .int 1, .int 0, .int 0, .int 0, .ref q_3, .int 0, .int 0, .int 0, .int 0, .long 0, .int 0, .int (-1), .ref q_62, .ref q_63])), (q_62, .inl (cA_64, 60, .inl f_83)), (q_63, .inl (cA_65, 60, .inl (upd f_82 (40 : Int32).toNatClampNeg (-1)))), (q_3, .inr (0, [.int 0, .int 0, .int 0, .int 0, .ref q_4, .ref q_5, .ref q_6, .ref q_7, .ref q_8, .ref q_9, .ref q_10, .ref q_11, .ref q_12, .ref q_13, .ref q_14, .ref q_15, .ref q_16, .ref q_17, .ref q_18])), (q_4, .inl (cA_19, 301, .inl g0_1)), (q_15, .inl (cA_20, 301, .inl g1_2))] := hD
  generalize (upd f_82 (40 : Int32).toNatClampNeg (-1)) = f_84 at hP hD
  refine lv_iinc (v := 41) (lv' := [(4, .int 41), (0, .ref q_60), (1, .ref q_1), (2, .int 0), (3, .ref q_3)]) hx hb dX7_begin_80 hl (k := 0) rfl (by decide) (by decide) rfl (fun ls hl => ?_)
  refine lv_goto (tgt := 57) hx hb dX7_begin_83 (by decide) ?_
  refine lv_iload hx hb dX7_begin_57 (lv_at hl 0 rfl) ?_
  refine lv_bipush (v := 60) hx hb dX7_begin_59 (by decide) ?_
  refine lv_icmp_ge (tgt := 86) hx hb dX7_begin_61 (by decide) (fun h9 => absurd h9 (by decide)) (fun _ => ?_)
  refine lv_aload_n hx hb dX7_begin_64 rfl (lv_at hl 1 rfl) ?_
  refine va_get (D := (dC, dI)) (ci := 7) (v := .ref q_62) (C := RX7) (T := TX7) (N := 18) hx hb hts mem_X7_begin_0 hown hK hP 0 rfl rfl 16 (by decide) (ow (k := 14) rfl) (fun _ h9 => h9) rfl dX7_begin_65 ?_
  refine lv_iload hx hb dX7_begin_68 (lv_at hl 0 rfl) ?_
  refine lv_iconst (v := 0) hx hb dX7_begin_70 (by decide) ?_
  refine va_zast hx hb hK hP hD hS 1 0 rfl rfl (show vp_in 41 60 by rw [vp_in_iff]; decide) dX7_begin_71 (fun H locs hP hD hS => ?_)
  have hP : va_P (dC, dI) vwP [(q_60, .inr (7, [.int 0, .ref q_1, .int 0, .int 0, .int 1, .int 0, .int 0, .int 0, .ref q_3, .int 0, .int 0, .int 0, .int 0, .long 0, .int 0, .int (-1), .ref q_62, .ref q_63])), (q_62, .inl (cA_64, 60, .inl (upd f_83 (41 : Int32).toNatClampNeg (vp_nar .boolean 0)))), (q_63, .inl (cA_65, 60, .inl f_84)), (q_3, .inr (0, [.int 0, .int 0, .int 0, .int 0, .ref q_4, .ref q_5, .ref q_6, .ref q_7, .ref q_8, .ref q_9, .ref q_10, .ref q_11, .ref q_12, .ref q_13, .ref q_14, .ref q_15, .ref q_16, .ref q_17, .ref q_18])), (q_4, .inl (cA_19, 301, .inl g0_1)), (q_15, .inl (cA_20, 301, .inl g1_2))] H := hP
  have hD : va_D A [(q_60, .inr (7, [.int 0, .ref q_1, .int 0, .int 0, .int 1, .int 0, .int 0, .int 0, .ref q_3, .int 0, .int 0, .int 0, .int 0, .long 0, .int 0, .int (-1), .ref q_62, .ref q_63])), (q_62, .inl (cA_64, 60, .inl (upd f_83 (41 : Int32).toNatClampNeg (vp_nar .boolean 0)))), (q_63, .inl (cA_65, 60, .inl f_84)), (q_3, .inr (0, [.int 0, .int 0, .int 0, .int 0, .ref q_4, .ref q_5, .ref q_6, .ref q_7, .ref q_8, .ref q_9, .ref q_10, .ref q_11, .ref q_12, .ref q_13, .ref q_14, .ref q_15, .ref q_16, .ref q_17, .ref q_18])), (q_4, .inl (cA_19, 301, .inl g0_1)), (q_15, .inl (cA_20, 301, .inl g1_2))] := hD
  generalize (upd f_83 (41 : Int32).toNatClampNeg (vp_nar .boolean 0)) = f_85 at hP hD
  refine lv_aload_n hx hb dX7_begin_72 rfl (lv_at hl 1 rfl) ?_
  refine va_get (D := (dC, dI)) (ci := 7) (v := .ref q_63) (C := RX7) (T := TX7) (N := 18) hx hb hts mem_X7_begin_0 hown hK hP 0 rfl rfl 17 (by decide) (ow (k := 15) rfl) (fun _ h9 => h9) rfl dX7_begin_73 ?_
  refine lv_iload hx hb dX7_begin_76 (lv_at hl 0 rfl) ?_
  refine lv_iconst (v := (-1)) hx hb dX7_begin_78 (by decide) ?_
  refine va_iast hx hb hK hP hD hS 2 1 rfl rfl (show vp_in 41 60 by rw [vp_in_iff]; decide) dX7_begin_79 (fun H locs hP hD hS => ?_)
  have hP : va_P (dC, dI) vwP [(q_60, .inr (7, [.int 0, .ref q_1, .int 0, .int 0, .int 1, .int 0, .int 0, .int 0, .ref q_3, .int 0, .int 0, .int 0, .int 0, .long 0, .int 0, .int (-1), .ref q_62, .ref q_63])), (q_62, .inl (cA_64, 60, .inl f_85)), (q_63, .inl (cA_65, 60, .inl (upd f_84 (41 : Int32).toNatClampNeg (-1)))), (q_3, .inr (0, [.int 0, .int 0, .int 0, .int 0, .ref q_4, .ref q_5, .ref q_6, .ref q_7, .ref q_8, .ref q_9, .ref q_10, .ref q_11, .ref q_12, .ref q_13, .ref q_14, .ref q_15, .ref q_16, .ref q_17, .ref q_18])), (q_4, .inl (cA_19, 301, .inl g0_1)), (q_15, .inl (cA_20, 301, .inl g1_2))] H := hP
  have hD : va_D A [(q_60, .inr (7, [.int 0, .ref q_1, .int 0, .int 0, .int 1, .int 0, .int 0, .int 0, .ref q_3, .int 0, .int 0, .int 0, .int 0, .long 0, .int 0, .int (-1), .ref q_62, .ref q_63])), (q_62, .inl (cA_64, 60, .inl f_85)), (q_63, .inl (cA_65, 60, .inl (upd f_84 (41 : Int32).toNatClampNeg (-1)))), (q_3, .inr (0, [.int 0, .int 0, .int 0, .int 0, .ref q_4, .ref q_5, .ref q_6, .ref q_7, .ref q_8, .ref q_9, .ref q_10, .ref q_11, .ref q_12, .ref q_13, .ref q_14, .ref q_15, .ref q_16, .ref q_17, .ref q_18])), (q_4, .inl (cA_19, 301, .inl g0_1)), (q_15, .inl (cA_20, 301, .inl g1_2))] := hD
  generalize (upd f_84 (41 : Int32).toNatClampNeg (-1)) = f_86 at hP hD
  refine lv_iinc (v := 42) (lv' := [(4, .int 42), (0, .ref q_60), (1, .ref q_1), (2, .int 0), (3, .ref q_3)]) hx hb dX7_begin_80 hl (k := 0) rfl (by decide) (by decide) rfl (fun ls hl => ?_)
  refine lv_goto (tgt := 57) hx hb dX7_begin_83 (by decide) ?_
  refine lv_iload hx hb dX7_begin_57 (lv_at hl 0 rfl) ?_
  refine lv_bipush (v := 60) hx hb dX7_begin_59 (by decide) ?_
  refine lv_icmp_ge (tgt := 86) hx hb dX7_begin_61 (by decide) (fun h9 => absurd h9 (by decide)) (fun _ => ?_)
  refine lv_aload_n hx hb dX7_begin_64 rfl (lv_at hl 1 rfl) ?_
  refine va_get (D := (dC, dI)) (ci := 7) (v := .ref q_62) (C := RX7) (T := TX7) (N := 18) hx hb hts mem_X7_begin_0 hown hK hP 0 rfl rfl 16 (by decide) (ow (k := 14) rfl) (fun _ h9 => h9) rfl dX7_begin_65 ?_
  refine lv_iload hx hb dX7_begin_68 (lv_at hl 0 rfl) ?_
  refine lv_iconst (v := 0) hx hb dX7_begin_70 (by decide) ?_
  refine va_zast hx hb hK hP hD hS 1 0 rfl rfl (show vp_in 42 60 by rw [vp_in_iff]; decide) dX7_begin_71 (fun H locs hP hD hS => ?_)
  have hP : va_P (dC, dI) vwP [(q_60, .inr (7, [.int 0, .ref q_1, .int 0, .int 0, .int 1, .int 0, .int 0, .int 0, .ref q_3, .int 0, .int 0, .int 0, .int 0, .long 0, .int 0, .int (-1), .ref q_62, .ref q_63])), (q_62, .inl (cA_64, 60, .inl (upd f_85 (42 : Int32).toNatClampNeg (vp_nar .boolean 0)))), (q_63, .inl (cA_65, 60, .inl f_86)), (q_3, .inr (0, [.int 0, .int 0, .int 0, .int 0, .ref q_4, .ref q_5, .ref q_6, .ref q_7, .ref q_8, .ref q_9, .ref q_10, .ref q_11, .ref q_12, .ref q_13, .ref q_14, .ref q_15, .ref q_16, .ref q_17, .ref q_18])), (q_4, .inl (cA_19, 301, .inl g0_1)), (q_15, .inl (cA_20, 301, .inl g1_2))] H := hP
  have hD : va_D A [(q_60, .inr (7, [.int 0, .ref q_1, .int 0, .int 0, .int 1, .int 0, .int 0, .int 0, .ref q_3, .int 0, .int 0, .int 0, .int 0, .long 0, .int 0, .int (-1), .ref q_62, .ref q_63])), (q_62, .inl (cA_64, 60, .inl (upd f_85 (42 : Int32).toNatClampNeg (vp_nar .boolean 0)))), (q_63, .inl (cA_65, 60, .inl f_86)), (q_3, .inr (0, [.int 0, .int 0, .int 0, .int 0, .ref q_4, .ref q_5, .ref q_6, .ref q_7, .ref q_8, .ref q_9, .ref q_10, .ref q_11, .ref q_12, .ref q_13, .ref q_14, .ref q_15, .ref q_16, .ref q_17, .ref q_18])), (q_4, .inl (cA_19, 301, .inl g0_1)), (q_15, .inl (cA_20, 301, .inl g1_2))] := hD
  generalize (upd f_85 (42 : Int32).toNatClampNeg (vp_nar .boolean 0)) = f_87 at hP hD
  refine lv_aload_n hx hb dX7_begin_72 rfl (lv_at hl 1 rfl) ?_
  refine va_get (D := (dC, dI)) (ci := 7) (v := .ref q_63) (C := RX7) (T := TX7) (N := 18) hx hb hts mem_X7_begin_0 hown hK hP 0 rfl rfl 17 (by decide) (ow (k := 15) rfl) (fun _ h9 => h9) rfl dX7_begin_73 ?_
  refine lv_iload hx hb dX7_begin_76 (lv_at hl 0 rfl) ?_
  refine lv_iconst (v := (-1)) hx hb dX7_begin_78 (by decide) ?_
  refine va_iast hx hb hK hP hD hS 2 1 rfl rfl (show vp_in 42 60 by rw [vp_in_iff]; decide) dX7_begin_79 (fun H locs hP hD hS => ?_)
  have hP : va_P (dC, dI) vwP [(q_60, .inr (7, [.int 0, .ref q_1, .int 0, .int 0, .int 1, .int 0, .int 0, .int 0, .ref q_3, .int 0, .int 0, .int 0, .int 0, .long 0, .int 0, .int (-1), .ref q_62, .ref q_63])), (q_62, .inl (cA_64, 60, .inl f_87)), (q_63, .inl (cA_65, 60, .inl (upd f_86 (42 : Int32).toNatClampNeg (-1)))), (q_3, .inr (0, [.int 0, .int 0, .int 0, .int 0, .ref q_4, .ref q_5, .ref q_6, .ref q_7, .ref q_8, .ref q_9, .ref q_10, .ref q_11, .ref q_12, .ref q_13, .ref q_14, .ref q_15, .ref q_16, .ref q_17, .ref q_18])), (q_4, .inl (cA_19, 301, .inl g0_1)), (q_15, .inl (cA_20, 301, .inl g1_2))] H := hP
  have hD : va_D A [(q_60, .inr (7, [.int 0, .ref q_1, .int 0, .int 0, .int 1, .int 0, .int 0, .int 0, .ref q_3, .int 0, .int 0, .int 0, .int 0, .long 0, .int 0, .int (-1), .ref q_62, .ref q_63])), (q_62, .inl (cA_64, 60, .inl f_87)), (q_63, .inl (cA_65, 60, .inl (upd f_86 (42 : Int32).toNatClampNeg (-1)))), (q_3, .inr (0, [.int 0, .int 0, .int 0, .int 0, .ref q_4, .ref q_5, .ref q_6, .ref q_7, .ref q_8, .ref q_9, .ref q_10, .ref q_11, .ref q_12, .ref q_13, .ref q_14, .ref q_15, .ref q_16, .ref q_17, .ref q_18])), (q_4, .inl (cA_19, 301, .inl g0_1)), (q_15, .inl (cA_20, 301, .inl g1_2))] := hD
  generalize (upd f_86 (42 : Int32).toNatClampNeg (-1)) = f_88 at hP hD
  refine lv_iinc (v := 43) (lv' := [(4, .int 43), (0, .ref q_60), (1, .ref q_1), (2, .int 0), (3, .ref q_3)]) hx hb dX7_begin_80 hl (k := 0) rfl (by decide) (by decide) rfl (fun ls hl => ?_)
  refine lv_goto (tgt := 57) hx hb dX7_begin_83 (by decide) ?_
  refine lv_iload hx hb dX7_begin_57 (lv_at hl 0 rfl) ?_
  refine lv_bipush (v := 60) hx hb dX7_begin_59 (by decide) ?_
  refine lv_icmp_ge (tgt := 86) hx hb dX7_begin_61 (by decide) (fun h9 => absurd h9 (by decide)) (fun _ => ?_)
  refine lv_aload_n hx hb dX7_begin_64 rfl (lv_at hl 1 rfl) ?_
  refine va_get (D := (dC, dI)) (ci := 7) (v := .ref q_62) (C := RX7) (T := TX7) (N := 18) hx hb hts mem_X7_begin_0 hown hK hP 0 rfl rfl 16 (by decide) (ow (k := 14) rfl) (fun _ h9 => h9) rfl dX7_begin_65 ?_
  refine lv_iload hx hb dX7_begin_68 (lv_at hl 0 rfl) ?_
  refine lv_iconst (v := 0) hx hb dX7_begin_70 (by decide) ?_
  refine va_zast hx hb hK hP hD hS 1 0 rfl rfl (show vp_in 43 60 by rw [vp_in_iff]; decide) dX7_begin_71 (fun H locs hP hD hS => ?_)
  have hP : va_P (dC, dI) vwP [(q_60, .inr (7, [.int 0, .ref q_1, .int 0, .int 0, .int 1, .int 0, .int 0, .int 0, .ref q_3, .int 0, .int 0, .int 0, .int 0, .long 0, .int 0, .int (-1), .ref q_62, .ref q_63])), (q_62, .inl (cA_64, 60, .inl (upd f_87 (43 : Int32).toNatClampNeg (vp_nar .boolean 0)))), (q_63, .inl (cA_65, 60, .inl f_88)), (q_3, .inr (0, [.int 0, .int 0, .int 0, .int 0, .ref q_4, .ref q_5, .ref q_6, .ref q_7, .ref q_8, .ref q_9, .ref q_10, .ref q_11, .ref q_12, .ref q_13, .ref q_14, .ref q_15, .ref q_16, .ref q_17, .ref q_18])), (q_4, .inl (cA_19, 301, .inl g0_1)), (q_15, .inl (cA_20, 301, .inl g1_2))] H := hP
  have hD : va_D A [(q_60, .inr (7, [.int 0, .ref q_1, .int 0, .int 0, .int 1, .int 0, .int 0, .int 0, .ref q_3, .int 0, .int 0, .int 0, .int 0, .long 0, .int 0, .int (-1), .ref q_62, .ref q_63])), (q_62, .inl (cA_64, 60, .inl (upd f_87 (43 : Int32).toNatClampNeg (vp_nar .boolean 0)))), (q_63, .inl (cA_65, 60, .inl f_88)), (q_3, .inr (0, [.int 0, .int 0, .int 0, .int 0, .ref q_4, .ref q_5, .ref q_6, .ref q_7, .ref q_8, .ref q_9, .ref q_10, .ref q_11, .ref q_12, .ref q_13, .ref q_14, .ref q_15, .ref q_16, .ref q_17, .ref q_18])), (q_4, .inl (cA_19, 301, .inl g0_1)), (q_15, .inl (cA_20, 301, .inl g1_2))] := hD
  generalize (upd f_87 (43 : Int32).toNatClampNeg (vp_nar .boolean 0)) = f_89 at hP hD
  refine lv_aload_n hx hb dX7_begin_72 rfl (lv_at hl 1 rfl) ?_
  refine va_get (D := (dC, dI)) (ci := 7) (v := .ref q_63) (C := RX7) (T := TX7) (N := 18) hx hb hts mem_X7_begin_0 hown hK hP 0 rfl rfl 17 (by decide) (ow (k := 15) rfl) (fun _ h9 => h9) rfl dX7_begin_73 ?_
  refine lv_iload hx hb dX7_begin_76 (lv_at hl 0 rfl) ?_
  refine lv_iconst (v := (-1)) hx hb dX7_begin_78 (by decide) ?_
  refine va_iast hx hb hK hP hD hS 2 1 rfl rfl (show vp_in 43 60 by rw [vp_in_iff]; decide) dX7_begin_79 (fun H locs hP hD hS => ?_)
  have hP : va_P (dC, dI) vwP [(q_60, .inr (7, [.int 0, .ref q_1, .int 0, .int 0, .int 1, .int 0, .int 0, .int 0, .ref q_3, .int 0, .int 0, .int 0, .int 0, .long 0, .int 0, .int (-1), .ref q_62, .ref q_63])), (q_62, .inl (cA_64, 60, .inl f_89)), (q_63, .inl (cA_65, 60, .inl (upd f_88 (43 : Int32).toNatClampNeg (-1)))), (q_3, .inr (0, [.int 0, .int 0, .int 0, .int 0, .ref q_4, .ref q_5, .ref q_6, .ref q_7, .ref q_8, .ref q_9, .ref q_10, .ref q_11, .ref q_12, .ref q_13, .ref q_14, .ref q_15, .ref q_16, .ref q_17, .ref q_18])), (q_4, .inl (cA_19, 301, .inl g0_1)), (q_15, .inl (cA_20, 301, .inl g1_2))] H := hP
  have hD : va_D A [(q_60, .inr (7, [.int 0, .ref q_1, .int 0, .int 0, .int 1, .int 0, .int 0, .int 0, .ref q_3, .int 0, .int 0, .int 0, .int 0, .long 0, .int 0, .int (-1), .ref q_62, .ref q_63])), (q_62, .inl (cA_64, 60, .inl f_89)), (q_63, .inl (cA_65, 60, .inl (upd f_88 (43 : Int32).toNatClampNeg (-1)))), (q_3, .inr (0, [.int 0, .int 0, .int 0, .int 0, .ref q_4, .ref q_5, .ref q_6, .ref q_7, .ref q_8, .ref q_9, .ref q_10, .ref q_11, .ref q_12, .ref q_13, .ref q_14, .ref q_15, .ref q_16, .ref q_17, .ref q_18])), (q_4, .inl (cA_19, 301, .inl g0_1)), (q_15, .inl (cA_20, 301, .inl g1_2))] := hD
  generalize (upd f_88 (43 : Int32).toNatClampNeg (-1)) = f_90 at hP hD
  refine lv_iinc (v := 44) (lv' := [(4, .int 44), (0, .ref q_60), (1, .ref q_1), (2, .int 0), (3, .ref q_3)]) hx hb dX7_begin_80 hl (k := 0) rfl (by decide) (by decide) rfl (fun ls hl => ?_)
  refine lv_goto (tgt := 57) hx hb dX7_begin_83 (by decide) ?_
  refine lv_iload hx hb dX7_begin_57 (lv_at hl 0 rfl) ?_
  refine lv_bipush (v := 60) hx hb dX7_begin_59 (by decide) ?_
  refine lv_icmp_ge (tgt := 86) hx hb dX7_begin_61 (by decide) (fun h9 => absurd h9 (by decide)) (fun _ => ?_)
  refine lv_aload_n hx hb dX7_begin_64 rfl (lv_at hl 1 rfl) ?_
  refine va_get (D := (dC, dI)) (ci := 7) (v := .ref q_62) (C := RX7) (T := TX7) (N := 18) hx hb hts mem_X7_begin_0 hown hK hP 0 rfl rfl 16 (by decide) (ow (k := 14) rfl) (fun _ h9 => h9) rfl dX7_begin_65 ?_
  refine lv_iload hx hb dX7_begin_68 (lv_at hl 0 rfl) ?_
  refine lv_iconst (v := 0) hx hb dX7_begin_70 (by decide) ?_
  refine va_zast hx hb hK hP hD hS 1 0 rfl rfl (show vp_in 44 60 by rw [vp_in_iff]; decide) dX7_begin_71 (fun H locs hP hD hS => ?_)
  have hP : va_P (dC, dI) vwP [(q_60, .inr (7, [.int 0, .ref q_1, .int 0, .int 0, .int 1, .int 0, .int 0, .int 0, .ref q_3, .int 0, .int 0, .int 0, .int 0, .long 0, .int 0, .int (-1), .ref q_62, .ref q_63])), (q_62, .inl (cA_64, 60, .inl (upd f_89 (44 : Int32).toNatClampNeg (vp_nar .boolean 0)))), (q_63, .inl (cA_65, 60, .inl f_90)), (q_3, .inr (0, [.int 0, .int 0, .int 0, .int 0, .ref q_4, .ref q_5, .ref q_6, .ref q_7, .ref q_8, .ref q_9, .ref q_10, .ref q_11, .ref q_12, .ref q_13, .ref q_14, .ref q_15, .ref q_16, .ref q_17, .ref q_18])), (q_4, .inl (cA_19, 301, .inl g0_1)), (q_15, .inl (cA_20, 301, .inl g1_2))] H := hP
  have hD : va_D A [(q_60, .inr (7, [.int 0, .ref q_1, .int 0, .int 0, .int 1, .int 0, .int 0, .int 0, .ref q_3, .int 0, .int 0, .int 0, .int 0, .long 0, .int 0, .int (-1), .ref q_62, .ref q_63])), (q_62, .inl (cA_64, 60, .inl (upd f_89 (44 : Int32).toNatClampNeg (vp_nar .boolean 0)))), (q_63, .inl (cA_65, 60, .inl f_90)), (q_3, .inr (0, [.int 0, .int 0, .int 0, .int 0, .ref q_4, .ref q_5, .ref q_6, .ref q_7, .ref q_8, .ref q_9, .ref q_10, .ref q_11, .ref q_12, .ref q_13, .ref q_14, .ref q_15, .ref q_16, .ref q_17, .ref q_18])), (q_4, .inl (cA_19, 301, .inl g0_1)), (q_15, .inl (cA_20, 301, .inl g1_2))] := hD
  generalize (upd f_89 (44 : Int32).toNatClampNeg (vp_nar .boolean 0)) = f_91 at hP hD
  refine lv_aload_n hx hb dX7_begin_72 rfl (lv_at hl 1 rfl) ?_
  refine va_get (D := (dC, dI)) (ci := 7) (v := .ref q_63) (C := RX7) (T := TX7) (N := 18) hx hb hts mem_X7_begin_0 hown hK hP 0 rfl rfl 17 (by decide) (ow (k := 15) rfl) (fun _ h9 => h9) rfl dX7_begin_73 ?_
  refine lv_iload hx hb dX7_begin_76 (lv_at hl 0 rfl) ?_
  refine lv_iconst (v := (-1)) hx hb dX7_begin_78 (by decide) ?_
  refine va_iast hx hb hK hP hD hS 2 1 rfl rfl (show vp_in 44 60 by rw [vp_in_iff]; decide) dX7_begin_79 (fun H locs hP hD hS => ?_)
  have hP : va_P (dC, dI) vwP [(q_60, .inr (7, [.int 0, .ref q_1, .int 0, .int 0, .int 1, .int 0, .int 0, .int 0, .ref q_3, .int 0, .int 0, .int 0, .int 0, .long 0, .int 0, .int (-1), .ref q_62, .ref q_63])), (q_62, .inl (cA_64, 60, .inl f_91)), (q_63, .inl (cA_65, 60, .inl (upd f_90 (44 : Int32).toNatClampNeg (-1)))), (q_3, .inr (0, [.int 0, .int 0, .int 0, .int 0, .ref q_4, .ref q_5, .ref q_6, .ref q_7, .ref q_8, .ref q_9, .ref q_10, .ref q_11, .ref q_12, .ref q_13, .ref q_14, .ref q_15, .ref q_16, .ref q_17, .ref q_18])), (q_4, .inl (cA_19, 301, .inl g0_1)), (q_15, .inl (cA_20, 301, .inl g1_2))] H := hP
  have hD : va_D A [(q_60, .inr (7, [.int 0, .ref q_1, .int 0, .int 0, .int 1, .int 0, .int 0, .int 0, .ref q_3, .int 0, .int 0, .int 0, .int 0, .long 0, .int 0, .int (-1), .ref q_62, .ref q_63])), (q_62, .inl (cA_64, 60, .inl f_91)), (q_63, .inl (cA_65, 60, .inl (upd f_90 (44 : Int32).toNatClampNeg (-1)))), (q_3, .inr (0, [.int 0, .int 0, .int 0, .int 0, .ref q_4, .ref q_5, .ref q_6, .ref q_7, .ref q_8, .ref q_9, .ref q_10, .ref q_11, .ref q_12, .ref q_13, .ref q_14, .ref q_15, .ref q_16, .ref q_17, .ref q_18])), (q_4, .inl (cA_19, 301, .inl g0_1)), (q_15, .inl (cA_20, 301, .inl g1_2))] := hD
  generalize (upd f_90 (44 : Int32).toNatClampNeg (-1)) = f_92 at hP hD
  refine lv_iinc (v := 45) (lv' := [(4, .int 45), (0, .ref q_60), (1, .ref q_1), (2, .int 0), (3, .ref q_3)]) hx hb dX7_begin_80 hl (k := 0) rfl (by decide) (by decide) rfl (fun ls hl => ?_)
  refine lv_goto (tgt := 57) hx hb dX7_begin_83 (by decide) ?_
  refine lv_iload hx hb dX7_begin_57 (lv_at hl 0 rfl) ?_
  refine lv_bipush (v := 60) hx hb dX7_begin_59 (by decide) ?_
  refine lv_icmp_ge (tgt := 86) hx hb dX7_begin_61 (by decide) (fun h9 => absurd h9 (by decide)) (fun _ => ?_)
  refine lv_aload_n hx hb dX7_begin_64 rfl (lv_at hl 1 rfl) ?_
  refine va_get (D := (dC, dI)) (ci := 7) (v := .ref q_62) (C := RX7) (T := TX7) (N := 18) hx hb hts mem_X7_begin_0 hown hK hP 0 rfl rfl 16 (by decide) (ow (k := 14) rfl) (fun _ h9 => h9) rfl dX7_begin_65 ?_
  refine lv_iload hx hb dX7_begin_68 (lv_at hl 0 rfl) ?_
  refine lv_iconst (v := 0) hx hb dX7_begin_70 (by decide) ?_
  refine va_zast hx hb hK hP hD hS 1 0 rfl rfl (show vp_in 45 60 by rw [vp_in_iff]; decide) dX7_begin_71 (fun H locs hP hD hS => ?_)
  have hP : va_P (dC, dI) vwP [(q_60, .inr (7, [.int 0, .ref q_1, .int 0, .int 0, .int 1, .int 0, .int 0, .int 0, .ref q_3, .int 0, .int 0, .int 0, .int 0, .long 0, .int 0, .int (-1), .ref q_62, .ref q_63])), (q_62, .inl (cA_64, 60, .inl (upd f_91 (45 : Int32).toNatClampNeg (vp_nar .boolean 0)))), (q_63, .inl (cA_65, 60, .inl f_92)), (q_3, .inr (0, [.int 0, .int 0, .int 0, .int 0, .ref q_4, .ref q_5, .ref q_6, .ref q_7, .ref q_8, .ref q_9, .ref q_10, .ref q_11, .ref q_12, .ref q_13, .ref q_14, .ref q_15, .ref q_16, .ref q_17, .ref q_18])), (q_4, .inl (cA_19, 301, .inl g0_1)), (q_15, .inl (cA_20, 301, .inl g1_2))] H := hP
  have hD : va_D A [(q_60, .inr (7, [.int 0, .ref q_1, .int 0, .int 0, .int 1, .int 0, .int 0, .int 0, .ref q_3, .int 0, .int 0, .int 0, .int 0, .long 0, .int 0, .int (-1), .ref q_62, .ref q_63])), (q_62, .inl (cA_64, 60, .inl (upd f_91 (45 : Int32).toNatClampNeg (vp_nar .boolean 0)))), (q_63, .inl (cA_65, 60, .inl f_92)), (q_3, .inr (0, [.int 0, .int 0, .int 0, .int 0, .ref q_4, .ref q_5, .ref q_6, .ref q_7, .ref q_8, .ref q_9, .ref q_10, .ref q_11, .ref q_12, .ref q_13, .ref q_14, .ref q_15, .ref q_16, .ref q_17, .ref q_18])), (q_4, .inl (cA_19, 301, .inl g0_1)), (q_15, .inl (cA_20, 301, .inl g1_2))] := hD
  generalize (upd f_91 (45 : Int32).toNatClampNeg (vp_nar .boolean 0)) = f_93 at hP hD
  refine lv_aload_n hx hb dX7_begin_72 rfl (lv_at hl 1 rfl) ?_
  refine va_get (D := (dC, dI)) (ci := 7) (v := .ref q_63) (C := RX7) (T := TX7) (N := 18) hx hb hts mem_X7_begin_0 hown hK hP 0 rfl rfl 17 (by decide) (ow (k := 15) rfl) (fun _ h9 => h9) rfl dX7_begin_73 ?_
  refine lv_iload hx hb dX7_begin_76 (lv_at hl 0 rfl) ?_
  refine lv_iconst (v := (-1)) hx hb dX7_begin_78 (by decide) ?_
  refine va_iast hx hb hK hP hD hS 2 1 rfl rfl (show vp_in 45 60 by rw [vp_in_iff]; decide) dX7_begin_79 (fun H locs hP hD hS => ?_)
  have hP : va_P (dC, dI) vwP [(q_60, .inr (7, [.int 0, .ref q_1, .int 0, .int 0, .int 1, .int 0, .int 0, .int 0, .ref q_3, .int 0, .int 0, .int 0, .int 0, .long 0, .int 0, .int (-1), .ref q_62, .ref q_63])), (q_62, .inl (cA_64, 60, .inl f_93)), (q_63, .inl (cA_65, 60, .inl (upd f_92 (45 : Int32).toNatClampNeg (-1)))), (q_3, .inr (0, [.int 0, .int 0, .int 0, .int 0, .ref q_4, .ref q_5, .ref q_6, .ref q_7, .ref q_8, .ref q_9, .ref q_10, .ref q_11, .ref q_12, .ref q_13, .ref q_14, .ref q_15, .ref q_16, .ref q_17, .ref q_18])), (q_4, .inl (cA_19, 301, .inl g0_1)), (q_15, .inl (cA_20, 301, .inl g1_2))] H := hP
  have hD : va_D A [(q_60, .inr (7, [.int 0, .ref q_1, .int 0, .int 0, .int 1, .int 0, .int 0, .int 0, .ref q_3, .int 0, .int 0, .int 0, .int 0, .long 0, .int 0, .int (-1), .ref q_62, .ref q_63])), (q_62, .inl (cA_64, 60, .inl f_93)), (q_63, .inl (cA_65, 60, .inl (upd f_92 (45 : Int32).toNatClampNeg (-1)))), (q_3, .inr (0, [.int 0, .int 0, .int 0, .int 0, .ref q_4, .ref q_5, .ref q_6, .ref q_7, .ref q_8, .ref q_9, .ref q_10, .ref q_11, .ref q_12, .ref q_13, .ref q_14, .ref q_15, .ref q_16, .ref q_17, .ref q_18])), (q_4, .inl (cA_19, 301, .inl g0_1)), (q_15, .inl (cA_20, 301, .inl g1_2))] := hD
  generalize (upd f_92 (45 : Int32).toNatClampNeg (-1)) = f_94 at hP hD
  refine lv_iinc (v := 46) (lv' := [(4, .int 46), (0, .ref q_60), (1, .ref q_1), (2, .int 0), (3, .ref q_3)]) hx hb dX7_begin_80 hl (k := 0) rfl (by decide) (by decide) rfl (fun ls hl => ?_)
  refine lv_goto (tgt := 57) hx hb dX7_begin_83 (by decide) ?_
  refine lv_iload hx hb dX7_begin_57 (lv_at hl 0 rfl) ?_
  refine lv_bipush (v := 60) hx hb dX7_begin_59 (by decide) ?_
  refine lv_icmp_ge (tgt := 86) hx hb dX7_begin_61 (by decide) (fun h9 => absurd h9 (by decide)) (fun _ => ?_)
  refine lv_aload_n hx hb dX7_begin_64 rfl (lv_at hl 1 rfl) ?_
  refine va_get (D := (dC, dI)) (ci := 7) (v := .ref q_62) (C := RX7) (T := TX7) (N := 18) hx hb hts mem_X7_begin_0 hown hK hP 0 rfl rfl 16 (by decide) (ow (k := 14) rfl) (fun _ h9 => h9) rfl dX7_begin_65 ?_
  refine lv_iload hx hb dX7_begin_68 (lv_at hl 0 rfl) ?_
  refine lv_iconst (v := 0) hx hb dX7_begin_70 (by decide) ?_
  refine va_zast hx hb hK hP hD hS 1 0 rfl rfl (show vp_in 46 60 by rw [vp_in_iff]; decide) dX7_begin_71 (fun H locs hP hD hS => ?_)
  have hP : va_P (dC, dI) vwP [(q_60, .inr (7, [.int 0, .ref q_1, .int 0, .int 0, .int 1, .int 0, .int 0, .int 0, .ref q_3, .int 0, .int 0, .int 0, .int 0, .long 0, .int 0, .int (-1), .ref q_62, .ref q_63])), (q_62, .inl (cA_64, 60, .inl (upd f_93 (46 : Int32).toNatClampNeg (vp_nar .boolean 0)))), (q_63, .inl (cA_65, 60, .inl f_94)), (q_3, .inr (0, [.int 0, .int 0, .int 0, .int 0, .ref q_4, .ref q_5, .ref q_6, .ref q_7, .ref q_8, .ref q_9, .ref q_10, .ref q_11, .ref q_12, .ref q_13, .ref q_14, .ref q_15, .ref q_16, .ref q_17, .ref q_18])), (q_4, .inl (cA_19, 301, .inl g0_1)), (q_15, .inl (cA_20, 301, .inl g1_2))] H := hP
  have hD : va_D A [(q_60, .inr (7, [.int 0, .ref q_1, .int 0, .int 0, .int 1, .int 0, .int 0, .int 0, .ref q_3, .int 0, .int 0, .int 0, .int 0, .long 0, .int 0, .int (-1), .ref q_62, .ref q_63])), (q_62, .inl (cA_64, 60, .inl (upd f_93 (46 : Int32).toNatClampNeg (vp_nar .boolean 0)))), (q_63, .inl (cA_65, 60, .inl f_94)), (q_3, .inr (0, [.int 0, .int 0, .int 0, .int 0, .ref q_4, .ref q_5, .ref q_6, .ref q_7, .ref q_8, .ref q_9, .ref q_10, .ref q_11, .ref q_12, .ref q_13, .ref q_14, .ref q_15, .ref q_16, .ref q_17, .ref q_18])), (q_4, .inl (cA_19, 301, .inl g0_1)), (q_15, .inl (cA_20, 301, .inl g1_2))] := hD
  generalize (upd f_93 (46 : Int32).toNatClampNeg (vp_nar .boolean 0)) = f_95 at hP hD
  refine lv_aload_n hx hb dX7_begin_72 rfl (lv_at hl 1 rfl) ?_
  refine va_get (D := (dC, dI)) (ci := 7) (v := .ref q_63) (C := RX7) (T := TX7) (N := 18) hx hb hts mem_X7_begin_0 hown hK hP 0 rfl rfl 17 (by decide) (ow (k := 15) rfl) (fun _ h9 => h9) rfl dX7_begin_73 ?_
  refine lv_iload hx hb dX7_begin_76 (lv_at hl 0 rfl) ?_
  refine lv_iconst (v := (-1)) hx hb dX7_begin_78 (by decide) ?_
  refine va_iast hx hb hK hP hD hS 2 1 rfl rfl (show vp_in 46 60 by rw [vp_in_iff]; decide) dX7_begin_79 (fun H locs hP hD hS => ?_)
  have hP : va_P (dC, dI) vwP [(q_60, .inr (7, [.int 0, .ref q_1, .int 0, .int 0, .int 1, .int 0, .int 0, .int 0, .ref q_3, .int 0, .int 0, .int 0, .int 0, .long 0, .int 0, .int (-1), .ref q_62, .ref q_63])), (q_62, .inl (cA_64, 60, .inl f_95)), (q_63, .inl (cA_65, 60, .inl (upd f_94 (46 : Int32).toNatClampNeg (-1)))), (q_3, .inr (0, [.int 0, .int 0, .int 0, .int 0, .ref q_4, .ref q_5, .ref q_6, .ref q_7, .ref q_8, .ref q_9, .ref q_10, .ref q_11, .ref q_12, .ref q_13, .ref q_14, .ref q_15, .ref q_16, .ref q_17, .ref q_18])), (q_4, .inl (cA_19, 301, .inl g0_1)), (q_15, .inl (cA_20, 301, .inl g1_2))] H := hP
  have hD : va_D A [(q_60, .inr (7, [.int 0, .ref q_1, .int 0, .int 0, .int 1, .int 0, .int 0, .int 0, .ref q_3, .int 0, .int 0, .int 0, .int 0, .long 0, .int 0, .int (-1), .ref q_62, .ref q_63])), (q_62, .inl (cA_64, 60, .inl f_95)), (q_63, .inl (cA_65, 60, .inl (upd f_94 (46 : Int32).toNatClampNeg (-1)))), (q_3, .inr (0, [.int 0, .int 0, .int 0, .int 0, .ref q_4, .ref q_5, .ref q_6, .ref q_7, .ref q_8, .ref q_9, .ref q_10, .ref q_11, .ref q_12, .ref q_13, .ref q_14, .ref q_15, .ref q_16, .ref q_17, .ref q_18])), (q_4, .inl (cA_19, 301, .inl g0_1)), (q_15, .inl (cA_20, 301, .inl g1_2))] := hD
  generalize (upd f_94 (46 : Int32).toNatClampNeg (-1)) = f_96 at hP hD
  refine lv_iinc (v := 47) (lv' := [(4, .int 47), (0, .ref q_60), (1, .ref q_1), (2, .int 0), (3, .ref q_3)]) hx hb dX7_begin_80 hl (k := 0) rfl (by decide) (by decide) rfl (fun ls hl => ?_)
  refine lv_goto (tgt := 57) hx hb dX7_begin_83 (by decide) ?_
  refine lv_iload hx hb dX7_begin_57 (lv_at hl 0 rfl) ?_
  refine lv_bipush (v := 60) hx hb dX7_begin_59 (by decide) ?_
  refine lv_icmp_ge (tgt := 86) hx hb dX7_begin_61 (by decide) (fun h9 => absurd h9 (by decide)) (fun _ => ?_)
  refine lv_aload_n hx hb dX7_begin_64 rfl (lv_at hl 1 rfl) ?_
  refine va_get (D := (dC, dI)) (ci := 7) (v := .ref q_62) (C := RX7) (T := TX7) (N := 18) hx hb hts mem_X7_begin_0 hown hK hP 0 rfl rfl 16 (by decide) (ow (k := 14) rfl) (fun _ h9 => h9) rfl dX7_begin_65 ?_
  refine lv_iload hx hb dX7_begin_68 (lv_at hl 0 rfl) ?_
  refine lv_iconst (v := 0) hx hb dX7_begin_70 (by decide) ?_
  refine va_zast hx hb hK hP hD hS 1 0 rfl rfl (show vp_in 47 60 by rw [vp_in_iff]; decide) dX7_begin_71 (fun H locs hP hD hS => ?_)
  have hP : va_P (dC, dI) vwP [(q_60, .inr (7, [.int 0, .ref q_1, .int 0, .int 0, .int 1, .int 0, .int 0, .int 0, .ref q_3, .int 0, .int 0, .int 0, .int 0, .long 0, .int 0, .int (-1), .ref q_62, .ref q_63])), (q_62, .inl (cA_64, 60, .inl (upd f_95 (47 : Int32).toNatClampNeg (vp_nar .boolean 0)))), (q_63, .inl (cA_65, 60, .inl f_96)), (q_3, .inr (0, [.int 0, .int 0, .int 0, .int 0, .ref q_4, .ref q_5, .ref q_6, .ref q_7, .ref q_8, .ref q_9, .ref q_10, .ref q_11, .ref q_12, .ref q_13, .ref q_14, .ref q_15, .ref q_16, .ref q_17, .ref q_18])), (q_4, .inl (cA_19, 301, .inl g0_1)), (q_15, .inl (cA_20, 301, .inl g1_2))] H := hP
  have hD : va_D A [(q_60, .inr (7, [.int 0, .ref q_1, .int 0, .int 0, .int 1, .int 0, .int 0, .int 0, .ref q_3, .int 0, .int 0, .int 0, .int 0, .long 0, .int 0, .int (-1), .ref q_62, .ref q_63])), (q_62, .inl (cA_64, 60, .inl (upd f_95 (47 : Int32).toNatClampNeg (vp_nar .boolean 0)))), (q_63, .inl (cA_65, 60, .inl f_96)), (q_3, .inr (0, [.int 0, .int 0, .int 0, .int 0, .ref q_4, .ref q_5, .ref q_6, .ref q_7, .ref q_8, .ref q_9, .ref q_10, .ref q_11, .ref q_12, .ref q_13, .ref q_14, .ref q_15, .ref q_16, .ref q_17, .ref q_18])), (q_4, .inl (cA_19, 301, .inl g0_1)), (q_15, .inl (cA_20, 301, .inl g1_2))] := hD
  generalize (upd f_95 (47 : Int32).toNatClampNeg (vp_nar .boolean 0)) = f_97 at hP hD
  refine lv_aload_n hx hb dX7_begin_72 rfl (lv_at hl 1 rfl) ?_
  refine va_get (D := (dC, dI)) (ci := 7) (v := .ref q_63) (C := RX7) (T := TX7) (N := 18) hx hb hts mem_X7_begin_0 hown hK hP 0 rfl rfl 17 (by decide) (ow (k := 15) rfl) (fun _ h9 => h9) rfl dX7_begin_73 ?_
  refine lv_iload hx hb dX7_begin_76 (lv_at hl 0 rfl) ?_
  refine lv_iconst (v := (-1)) hx hb dX7_begin_78 (by decide) ?_
  refine va_iast hx hb hK hP hD hS 2 1 rfl rfl (show vp_in 47 60 by rw [vp_in_iff]; decide) dX7_begin_79 (fun H locs hP hD hS => ?_)
  have hP : va_P (dC, dI) vwP [(q_60, .inr (7, [.int 0, .ref q_1, .int 0, .int 0, .int 1, .int 0, .int 0, .int 0, .ref q_3, .int 0, .int 0, .int 0, .int 0, .long 0, .int 0, .int (-1), .ref q_62, .ref q_63])), (q_62, .inl (cA_64, 60, .inl f_97)), (q_63, .inl (cA_65, 60, .inl (upd f_96 (47 : Int32).toNatClampNeg (-1)))), (q_3, .inr (0, [.int 0, .int 0, .int 0, .int 0, .ref q_4, .ref q_5, .ref q_6, .ref q_7, .ref q_8, .ref q_9, .ref q_10, .ref q_11, .ref q_12, .ref q_13, .ref q_14, .ref q_15, .ref q_16, .ref q_17, .ref q_18])), (q_4, .inl (cA_19, 301, .inl g0_1)), (q_15, .inl (cA_20, 301, .inl g1_2))] H := hP
  have hD : va_D A [(q_60, .inr (7, [.int 0, .ref q_1, .int 0, .int 0, .int 1, .int 0, .int 0, .int 0, .ref q_3, .int 0, .int 0, .int 0, .int 0, .long 0, .int 0, .int (-1), .ref q_62, .ref q_63])), (q_62, .inl (cA_64, 60, .inl f_97)), (q_63, .inl (cA_65, 60, .inl (upd f_96 (47 : Int32).toNatClampNeg (-1)))), (q_3, .inr (0, [.int 0, .int 0, .int 0, .int 0, .ref q_4, .ref q_5, .ref q_6, .ref q_7, .ref q_8, .ref q_9, .ref q_10, .ref q_11, .ref q_12, .ref q_13, .ref q_14, .ref q_15, .ref q_16, .ref q_17, .ref q_18])), (q_4, .inl (cA_19, 301, .inl g0_1)), (q_15, .inl (cA_20, 301, .inl g1_2))] := hD
  generalize (upd f_96 (47 : Int32).toNatClampNeg (-1)) = f_98 at hP hD
  refine lv_iinc (v := 48) (lv' := [(4, .int 48), (0, .ref q_60), (1, .ref q_1), (2, .int 0), (3, .ref q_3)]) hx hb dX7_begin_80 hl (k := 0) rfl (by decide) (by decide) rfl (fun ls hl => ?_)
  refine lv_goto (tgt := 57) hx hb dX7_begin_83 (by decide) ?_
  refine lv_iload hx hb dX7_begin_57 (lv_at hl 0 rfl) ?_
  refine lv_bipush (v := 60) hx hb dX7_begin_59 (by decide) ?_
  refine lv_icmp_ge (tgt := 86) hx hb dX7_begin_61 (by decide) (fun h9 => absurd h9 (by decide)) (fun _ => ?_)
  refine lv_aload_n hx hb dX7_begin_64 rfl (lv_at hl 1 rfl) ?_
  refine va_get (D := (dC, dI)) (ci := 7) (v := .ref q_62) (C := RX7) (T := TX7) (N := 18) hx hb hts mem_X7_begin_0 hown hK hP 0 rfl rfl 16 (by decide) (ow (k := 14) rfl) (fun _ h9 => h9) rfl dX7_begin_65 ?_
  refine lv_iload hx hb dX7_begin_68 (lv_at hl 0 rfl) ?_
  refine lv_iconst (v := 0) hx hb dX7_begin_70 (by decide) ?_
  refine va_zast hx hb hK hP hD hS 1 0 rfl rfl (show vp_in 48 60 by rw [vp_in_iff]; decide) dX7_begin_71 (fun H locs hP hD hS => ?_)
  have hP : va_P (dC, dI) vwP [(q_60, .inr (7, [.int 0, .ref q_1, .int 0, .int 0, .int 1, .int 0, .int 0, .int 0, .ref q_3, .int 0, .int 0, .int 0, .int 0, .long 0, .int 0, .int (-1), .ref q_62, .ref q_63])), (q_62, .inl (cA_64, 60, .inl (upd f_97 (48 : Int32).toNatClampNeg (vp_nar .boolean 0)))), (q_63, .inl (cA_65, 60, .inl f_98)), (q_3, .inr (0, [.int 0, .int 0, .int 0, .int 0, .ref q_4, .ref q_5, .ref q_6, .ref q_7, .ref q_8, .ref q_9, .ref q_10, .ref q_11, .ref q_12, .ref q_13, .ref q_14, .ref q_15, .ref q_16, .ref q_17, .ref q_18])), (q_4, .inl (cA_19, 301, .inl g0_1)), (q_15, .inl (cA_20, 301, .inl g1_2))] H := hP
  have hD : va_D A [(q_60, .inr (7, [.int 0, .ref q_1, .int 0, .int 0, .int 1, .int 0, .int 0, .int 0, .ref q_3, .int 0, .int 0, .int 0, .int 0, .long 0, .int 0, .int (-1), .ref q_62, .ref q_63])), (q_62, .inl (cA_64, 60, .inl (upd f_97 (48 : Int32).toNatClampNeg (vp_nar .boolean 0)))), (q_63, .inl (cA_65, 60, .inl f_98)), (q_3, .inr (0, [.int 0, .int 0, .int 0, .int 0, .ref q_4, .ref q_5, .ref q_6, .ref q_7, .ref q_8, .ref q_9, .ref q_10, .ref q_11, .ref q_12, .ref q_13, .ref q_14, .ref q_15, .ref q_16, .ref q_17, .ref q_18])), (q_4, .inl (cA_19, 301, .inl g0_1)), (q_15, .inl (cA_20, 301, .inl g1_2))] := hD
  generalize (upd f_97 (48 : Int32).toNatClampNeg (vp_nar .boolean 0)) = f_99 at hP hD
  refine lv_aload_n hx hb dX7_begin_72 rfl (lv_at hl 1 rfl) ?_
  refine va_get (D := (dC, dI)) (ci := 7) (v := .ref q_63) (C := RX7) (T := TX7) (N := 18) hx hb hts mem_X7_begin_0 hown hK hP 0 rfl rfl 17 (by decide) (ow (k := 15) rfl) (fun _ h9 => h9) rfl dX7_begin_73 ?_
  refine lv_iload hx hb dX7_begin_76 (lv_at hl 0 rfl) ?_
  refine lv_iconst (v := (-1)) hx hb dX7_begin_78 (by decide) ?_
  refine va_iast hx hb hK hP hD hS 2 1 rfl rfl (show vp_in 48 60 by rw [vp_in_iff]; decide) dX7_begin_79 (fun H locs hP hD hS => ?_)
  have hP : va_P (dC, dI) vwP [(q_60, .inr (7, [.int 0, .ref q_1, .int 0, .int 0, .int 1, .int 0, .int 0, .int 0, .ref q_3, .int 0, .int 0, .int 0, .int 0, .long 0, .int 0, .int (-1), .ref q_62, .ref q_63])), (q_62, .inl (cA_64, 60, .inl f_99)), (q_63, .inl (cA_65, 60, .inl (upd f_98 (48 : Int32).toNatClampNeg (-1)))), (q_3, .inr (0, [.int 0, .int 0, .int 0, .int 0, .ref q_4, .ref q_5, .ref q_6, .ref q_7, .ref q_8, .ref q_9, .ref q_10, .ref q_11, .ref q_12, .ref q_13, .ref q_14, .ref q_15, .ref q_16, .ref q_17, .ref q_18])), (q_4, .inl (cA_19, 301, .inl g0_1)), (q_15, .inl (cA_20, 301, .inl g1_2))] H := hP
  have hD : va_D A [(q_60, .inr (7, [.int 0, .ref q_1, .int 0, .int 0, .int 1, .int 0, .int 0, .int 0, .ref q_3, .int 0, .int 0, .int 0, .int 0, .long 0, .int 0, .int (-1), .ref q_62, .ref q_63])), (q_62, .inl (cA_64, 60, .inl f_99)), (q_63, .inl (cA_65, 60, .inl (upd f_98 (48 : Int32).toNatClampNeg (-1)))), (q_3, .inr (0, [.int 0, .int 0, .int 0, .int 0, .ref q_4, .ref q_5, .ref q_6, .ref q_7, .ref q_8, .ref q_9, .ref q_10, .ref q_11, .ref q_12, .ref q_13, .ref q_14, .ref q_15, .ref q_16, .ref q_17, .ref q_18])), (q_4, .inl (cA_19, 301, .inl g0_1)), (q_15, .inl (cA_20, 301, .inl g1_2))] := hD
  generalize (upd f_98 (48 : Int32).toNatClampNeg (-1)) = f_100 at hP hD
  refine lv_iinc (v := 49) (lv' := [(4, .int 49), (0, .ref q_60), (1, .ref q_1), (2, .int 0), (3, .ref q_3)]) hx hb dX7_begin_80 hl (k := 0) rfl (by decide) (by decide) rfl (fun ls hl => ?_)
  refine lv_goto (tgt := 57) hx hb dX7_begin_83 (by decide) ?_
  refine lv_iload hx hb dX7_begin_57 (lv_at hl 0 rfl) ?_
  refine lv_bipush (v := 60) hx hb dX7_begin_59 (by decide) ?_
  refine lv_icmp_ge (tgt := 86) hx hb dX7_begin_61 (by decide) (fun h9 => absurd h9 (by decide)) (fun _ => ?_)
  refine lv_aload_n hx hb dX7_begin_64 rfl (lv_at hl 1 rfl) ?_
  refine va_get (D := (dC, dI)) (ci := 7) (v := .ref q_62) (C := RX7) (T := TX7) (N := 18) hx hb hts mem_X7_begin_0 hown hK hP 0 rfl rfl 16 (by decide) (ow (k := 14) rfl) (fun _ h9 => h9) rfl dX7_begin_65 ?_
  refine lv_iload hx hb dX7_begin_68 (lv_at hl 0 rfl) ?_
  refine lv_iconst (v := 0) hx hb dX7_begin_70 (by decide) ?_
  refine va_zast hx hb hK hP hD hS 1 0 rfl rfl (show vp_in 49 60 by rw [vp_in_iff]; decide) dX7_begin_71 (fun H locs hP hD hS => ?_)
  have hP : va_P (dC, dI) vwP [(q_60, .inr (7, [.int 0, .ref q_1, .int 0, .int 0, .int 1, .int 0, .int 0, .int 0, .ref q_3, .int 0, .int 0, .int 0, .int 0, .long 0, .int 0, .int (-1), .ref q_62, .ref q_63])), (q_62, .inl (cA_64, 60, .inl (upd f_99 (49 : Int32).toNatClampNeg (vp_nar .boolean 0)))), (q_63, .inl (cA_65, 60, .inl f_100)), (q_3, .inr (0, [.int 0, .int 0, .int 0, .int 0, .ref q_4, .ref q_5, .ref q_6, .ref q_7, .ref q_8, .ref q_9, .ref q_10, .ref q_11, .ref q_12, .ref q_13, .ref q_14, .ref q_15, .ref q_16, .ref q_17, .ref q_18])), (q_4, .inl (cA_19, 301, .inl g0_1)), (q_15, .inl (cA_20, 301, .inl g1_2))] H := hP
  have hD : va_D A [(q_60, .inr (7, [.int 0, .ref q_1, .int 0, .int 0, .int 1, .int 0, .int 0, .int 0, .ref q_3, .int 0, .int 0, .int 0, .int 0, .long 0, .int 0, .int (-1), .ref q_62, .ref q_63])), (q_62, .inl (cA_64, 60, .inl (upd f_99 (49 : Int32).toNatClampNeg (vp_nar .boolean 0)))), (q_63, .inl (cA_65, 60, .inl f_100)), (q_3, .inr (0, [.int 0, .int 0, .int 0, .int 0, .ref q_4, .ref q_5, .ref q_6, .ref q_7, .ref q_8, .ref q_9, .ref q_10, .ref q_11, .ref q_12, .ref q_13, .ref q_14, .ref q_15, .ref q_16, .ref q_17, .ref q_18])), (q_4, .inl (cA_19, 301, .inl g0_1)), (q_15, .inl (cA_20, 301, .inl g1_2))] := hD
  generalize (upd f_99 (49 : Int32).toNatClampNeg (vp_nar .boolean 0)) = f_101 at hP hD
  refine lv_aload_n hx hb dX7_begin_72 rfl (lv_at hl 1 rfl) ?_
  refine va_get (D := (dC, dI)) (ci := 7) (v := .ref q_63) (C := RX7) (T := TX7) (N := 18) hx hb hts mem_X7_begin_0 hown hK hP 0 rfl rfl 17 (by decide) (ow (k := 15) rfl) (fun _ h9 => h9) rfl dX7_begin_73 ?_
  refine lv_iload hx hb dX7_begin_76 (lv_at hl 0 rfl) ?_
  refine lv_iconst (v := (-1)) hx hb dX7_begin_78 (by decide) ?_
  refine va_iast hx hb hK hP hD hS 2 1 rfl rfl (show vp_in 49 60 by rw [vp_in_iff]; decide) dX7_begin_79 (fun H locs hP hD hS => ?_)
  have hP : va_P (dC, dI) vwP [(q_60, .inr (7, [.int 0, .ref q_1, .int 0, .int 0, .int 1, .int 0, .int 0, .int 0, .ref q_3, .int 0, .int 0, .int 0, .int 0, .long 0, .int 0, .int (-1), .ref q_62, .ref q_63])), (q_62, .inl (cA_64, 60, .inl f_101)), (q_63, .inl (cA_65, 60, .inl (upd f_100 (49 : Int32).toNatClampNeg (-1)))), (q_3, .inr (0, [.int 0, .int 0, .int 0, .int 0, .ref q_4, .ref q_5, .ref q_6, .ref q_7, .ref q_8, .ref q_9, .ref q_10, .ref q_11, .ref q_12, .ref q_13, .ref q_14, .ref q_15, .ref q_16, .ref q_17, .ref q_18])), (q_4, .inl (cA_19, 301, .inl g0_1)), (q_15, .inl (cA_20, 301, .inl g1_2))] H := hP
  have hD : va_D A [(q_60, .inr (7, [.int 0, .ref q_1, .int 0, .int 0, .int 1, .int 0, .int 0, .int 0, .ref q_3, .int 0, .int 0, .int 0, .int 0, .long 0, .int 0, .int (-1), .ref q_62, .ref q_63])), (q_62, .inl (cA_64, 60, .inl f_101)), (q_63, .inl (cA_65, 60, .inl (upd f_100 (49 : Int32).toNatClampNeg (-1)))), (q_3, .inr (0, [.int 0, .int 0, .int 0, .int 0, .ref q_4, .ref q_5, .ref q_6, .ref q_7, .ref q_8, .ref q_9, .ref q_10, .ref q_11, .ref q_12, .ref q_13, .ref q_14, .ref q_15, .ref q_16, .ref q_17, .ref q_18])), (q_4, .inl (cA_19, 301, .inl g0_1)), (q_15, .inl (cA_20, 301, .inl g1_2))] := hD
  generalize (upd f_100 (49 : Int32).toNatClampNeg (-1)) = f_102 at hP hD
  refine lv_iinc (v := 50) (lv' := [(4, .int 50), (0, .ref q_60), (1, .ref q_1), (2, .int 0), (3, .ref q_3)]) hx hb dX7_begin_80 hl (k := 0) rfl (by decide) (by decide) rfl (fun ls hl => ?_)
  refine lv_goto (tgt := 57) hx hb dX7_begin_83 (by decide) ?_
  refine lv_iload hx hb dX7_begin_57 (lv_at hl 0 rfl) ?_
  refine lv_bipush (v := 60) hx hb dX7_begin_59 (by decide) ?_
  refine lv_icmp_ge (tgt := 86) hx hb dX7_begin_61 (by decide) (fun h9 => absurd h9 (by decide)) (fun _ => ?_)
  refine lv_aload_n hx hb dX7_begin_64 rfl (lv_at hl 1 rfl) ?_
  refine va_get (D := (dC, dI)) (ci := 7) (v := .ref q_62) (C := RX7) (T := TX7) (N := 18) hx hb hts mem_X7_begin_0 hown hK hP 0 rfl rfl 16 (by decide) (ow (k := 14) rfl) (fun _ h9 => h9) rfl dX7_begin_65 ?_
  refine lv_iload hx hb dX7_begin_68 (lv_at hl 0 rfl) ?_
  refine lv_iconst (v := 0) hx hb dX7_begin_70 (by decide) ?_
  refine va_zast hx hb hK hP hD hS 1 0 rfl rfl (show vp_in 50 60 by rw [vp_in_iff]; decide) dX7_begin_71 (fun H locs hP hD hS => ?_)
  have hP : va_P (dC, dI) vwP [(q_60, .inr (7, [.int 0, .ref q_1, .int 0, .int 0, .int 1, .int 0, .int 0, .int 0, .ref q_3, .int 0, .int 0, .int 0, .int 0, .long 0, .int 0, .int (-1), .ref q_62, .ref q_63])), (q_62, .inl (cA_64, 60, .inl (upd f_101 (50 : Int32).toNatClampNeg (vp_nar .boolean 0)))), (q_63, .inl (cA_65, 60, .inl f_102)), (q_3, .inr (0, [.int 0, .int 0, .int 0, .int 0, .ref q_4, .ref q_5, .ref q_6, .ref q_7, .ref q_8, .ref q_9, .ref q_10, .ref q_11, .ref q_12, .ref q_13, .ref q_14, .ref q_15, .ref q_16, .ref q_17, .ref q_18])), (q_4, .inl (cA_19, 301, .inl g0_1)), (q_15, .inl (cA_20, 301, .inl g1_2))] H := hP
  have hD : va_D A [(q_60, .inr (7, [.int 0, .ref q_1, .int 0, .int 0, .int 1, .int 0, .int 0, .int 0, .ref q_3, .int 0, .int 0, .int 0, .int 0, .long 0, .int 0, .int (-1), .ref q_62, .ref q_63])), (q_62, .inl (cA_64, 60, .inl (upd f_101 (50 : Int32).toNatClampNeg (vp_nar .boolean 0)))), (q_63, .inl (cA_65, 60, .inl f_102)), (q_3, .inr (0, [.int 0, .int 0, .int 0, .int 0, .ref q_4, .ref q_5, .ref q_6, .ref q_7, .ref q_8, .ref q_9, .ref q_10, .ref q_11, .ref q_12, .ref q_13, .ref q_14, .ref q_15, .ref q_16, .ref q_17, .ref q_18])), (q_4, .inl (cA_19, 301, .inl g0_1)), (q_15, .inl (cA_20, 301, .inl g1_2))] := hD
  generalize (upd f_101 (50 : Int32).toNatClampNeg (vp_nar .boolean 0)) = f_103 at hP hD
  refine lv_aload_n hx hb dX7_begin_72 rfl (lv_at hl 1 rfl) ?_
  refine va_get (D := (dC, dI)) (ci := 7) (v := .ref q_63) (C := RX7) (T := TX7) (N := 18) hx hb hts mem_X7_begin_0 hown hK hP 0 rfl rfl 17 (by decide) (ow (k := 15) rfl) (fun _ h9 => h9) rfl dX7_begin_73 ?_
  refine lv_iload hx hb dX7_begin_76 (lv_at hl 0 rfl) ?_
  refine lv_iconst (v := (-1)) hx hb dX7_begin_78 (by decide) ?_
  refine va_iast hx hb hK hP hD hS 2 1 rfl rfl (show vp_in 50 60 by rw [vp_in_iff]; decide) dX7_begin_79 (fun H locs hP hD hS => ?_)
  have hP : va_P (dC, dI) vwP [(q_60, .inr (7, [.int 0, .ref q_1, .int 0, .int 0, .int 1, .int 0, .int 0, .int 0, .ref q_3, .int 0, .int 0, .int 0, .int 0, .long 0, .int 0, .int (-1), .ref q_62, .ref q_63])), (q_62, .inl (cA_64, 60, .inl f_103)), (q_63, .inl (cA_65, 60, .inl (upd f_102 (50 : Int32).toNatClampNeg (-1)))), (q_3, .inr (0, [.int 0, .int 0, .int 0, .int 0, .ref q_4, .ref q_5, .ref q_6, .ref q_7, .ref q_8, .ref q_9, .ref q_10, .ref q_11, .ref q_12, .ref q_13, .ref q_14, .ref q_15, .ref q_16, .ref q_17, .ref q_18])), (q_4, .inl (cA_19, 301, .inl g0_1)), (q_15, .inl (cA_20, 301, .inl g1_2))] H := hP
  have hD : va_D A [(q_60, .inr (7, [.int 0, .ref q_1, .int 0, .int 0, .int 1, .int 0, .int 0, .int 0, .ref q_3, .int 0, .int 0, .int 0, .int 0, .long 0, .int 0, .int (-1), .ref q_62, .ref q_63])), (q_62, .inl (cA_64, 60, .inl f_103)), (q_63, .inl (cA_65, 60, .inl (upd f_102 (50 : Int32).toNatClampNeg (-1)))), (q_3, .inr (0, [.int 0, .int 0, .int 0, .int 0, .ref q_4, .ref q_5, .ref q_6, .ref q_7, .ref q_8, .ref q_9, .ref q_10, .ref q_11, .ref q_12, .ref q_13, .ref q_14, .ref q_15, .ref q_16, .ref q_17, .ref q_18])), (q_4, .inl (cA_19, 301, .inl g0_1)), (q_15, .inl (cA_20, 301, .inl g1_2))] := hD
  generalize (upd f_102 (50 : Int32).toNatClampNeg (-1)) = f_104 at hP hD
  refine lv_iinc (v := 51) (lv' := [(4, .int 51), (0, .ref q_60), (1, .ref q_1), (2, .int 0), (3, .ref q_3)]) hx hb dX7_begin_80 hl (k := 0) rfl (by decide) (by decide) rfl (fun ls hl => ?_)
  refine lv_goto (tgt := 57) hx hb dX7_begin_83 (by decide) ?_
  refine lv_iload hx hb dX7_begin_57 (lv_at hl 0 rfl) ?_
  refine lv_bipush (v := 60) hx hb dX7_begin_59 (by decide) ?_
  refine lv_icmp_ge (tgt := 86) hx hb dX7_begin_61 (by decide) (fun h9 => absurd h9 (by decide)) (fun _ => ?_)
  refine lv_aload_n hx hb dX7_begin_64 rfl (lv_at hl 1 rfl) ?_
  refine va_get (D := (dC, dI)) (ci := 7) (v := .ref q_62) (C := RX7) (T := TX7) (N := 18) hx hb hts mem_X7_begin_0 hown hK hP 0 rfl rfl 16 (by decide) (ow (k := 14) rfl) (fun _ h9 => h9) rfl dX7_begin_65 ?_
  refine lv_iload hx hb dX7_begin_68 (lv_at hl 0 rfl) ?_
  refine lv_iconst (v := 0) hx hb dX7_begin_70 (by decide) ?_
  refine va_zast hx hb hK hP hD hS 1 0 rfl rfl (show vp_in 51 60 by rw [vp_in_iff]; decide) dX7_begin_71 (fun H locs hP hD hS => ?_)
  have hP : va_P (dC, dI) vwP [(q_60, .inr (7, [.int 0, .ref q_1, .int 0, .int 0, .int 1, .int 0, .int 0, .int 0, .ref q_3, .int 0, .int 0, .int 0, .int 0, .long 0, .int 0, .int (-1), .ref q_62, .ref q_63])), (q_62, .inl (cA_64, 60, .inl (upd f_103 (51 : Int32).toNatClampNeg (vp_nar .boolean 0)))), (q_63, .inl (cA_65, 60, .inl f_104)), (q_3, .inr (0, [.int 0, .int 0, .int 0, .int 0, .ref q_4, .ref q_5, .ref q_6, .ref q_7, .ref q_8, .ref q_9, .ref q_10, .ref q_11, .ref q_12, .ref q_13, .ref q_14, .ref q_15, .ref q_16, .ref q_17, .ref q_18])), (q_4, .inl (cA_19, 301, .inl g0_1)), (q_15, .inl (cA_20, 301, .inl g1_2))] H := hP
  have hD : va_D A [(q_60, .inr (7, [.int 0, .ref q_1, .int 0, .int 0, .int 1, .int 0, .int 0, .int 0, .ref q_3, .int 0, .int 0, .int 0, .int 0, .long 0, .int 0, .int (-1), .ref q_62, .ref q_63])), (q_62, .inl (cA_64, 60, .inl (upd f_103 (51 : Int32).toNatClampNeg (vp_nar .boolean 0)))), (q_63, .inl (cA_65, 60, .inl f_104)), (q_3, .inr (0, [.int 0, .int 0, .int 0, .int 0, .ref q_4, .ref q_5, .ref q_6, .ref q_7, .ref q_8, .ref q_9, .ref q_10, .ref q_11, .ref q_12, .ref q_13, .ref q_14, .ref q_15, .ref q_16, .ref q_17, .ref q_18])), (q_4, .inl (cA_19, 301, .inl g0_1)), (q_15, .inl (cA_20, 301, .inl g1_2))] := hD
  generalize (upd f_103 (51 : Int32).toNatClampNeg (vp_nar .boolean 0)) = f_105 at hP hD
  refine lv_aload_n hx hb dX7_begin_72 rfl (lv_at hl 1 rfl) ?_
  refine va_get (D := (dC, dI)) (ci := 7) (v := .ref q_63) (C := RX7) (T := TX7) (N := 18) hx hb hts mem_X7_begin_0 hown hK hP 0 rfl rfl 17 (by decide) (ow (k := 15) rfl) (fun _ h9 => h9) rfl dX7_begin_73 ?_
  refine lv_iload hx hb dX7_begin_76 (lv_at hl 0 rfl) ?_
  refine lv_iconst (v := (-1)) hx hb dX7_begin_78 (by decide) ?_
  refine va_iast hx hb hK hP hD hS 2 1 rfl rfl (show vp_in 51 60 by rw [vp_in_iff]; decide) dX7_begin_79 (fun H locs hP hD hS => ?_)
  have hP : va_P (dC, dI) vwP [(q_60, .inr (7, [.int 0, .ref q_1, .int 0, .int 0, .int 1, .int 0, .int 0, .int 0, .ref q_3, .int 0, .int 0, .int 0, .int 0, .long 0, .int 0, .int (-1), .ref q_62, .ref q_63])), (q_62, .inl (cA_64, 60, .inl f_105)), (q_63, .inl (cA_65, 60, .inl (upd f_104 (51 : Int32).toNatClampNeg (-1)))), (q_3, .inr (0, [.int 0, .int 0, .int 0, .int 0, .ref q_4, .ref q_5, .ref q_6, .ref q_7, .ref q_8, .ref q_9, .ref q_10, .ref q_11, .ref q_12, .ref q_13, .ref q_14, .ref q_15, .ref q_16, .ref q_17, .ref q_18])), (q_4, .inl (cA_19, 301, .inl g0_1)), (q_15, .inl (cA_20, 301, .inl g1_2))] H := hP
  have hD : va_D A [(q_60, .inr (7, [.int 0, .ref q_1, .int 0, .int 0, .int 1, .int 0, .int 0, .int 0, .ref q_3, .int 0, .int 0, .int 0, .int 0, .long 0, .int 0, .int (-1), .ref q_62, .ref q_63])), (q_62, .inl (cA_64, 60, .inl f_105)), (q_63, .inl (cA_65, 60, .inl (upd f_104 (51 : Int32).toNatClampNeg (-1)))), (q_3, .inr (0, [.int 0, .int 0, .int 0, .int 0, .ref q_4, .ref q_5, .ref q_6, .ref q_7, .ref q_8, .ref q_9, .ref q_10, .ref q_11, .ref q_12, .ref q_13, .ref q_14, .ref q_15, .ref q_16, .ref q_17, .ref q_18])), (q_4, .inl (cA_19, 301, .inl g0_1)), (q_15, .inl (cA_20, 301, .inl g1_2))] := hD
  generalize (upd f_104 (51 : Int32).toNatClampNeg (-1)) = f_106 at hP hD
  refine lv_iinc (v := 52) (lv' := [(4, .int 52), (0, .ref q_60), (1, .ref q_1), (2, .int 0), (3, .ref q_3)]) hx hb dX7_begin_80 hl (k := 0) rfl (by decide) (by decide) rfl (fun ls hl => ?_)
  refine lv_goto (tgt := 57) hx hb dX7_begin_83 (by decide) ?_
  refine lv_iload hx hb dX7_begin_57 (lv_at hl 0 rfl) ?_
  refine lv_bipush (v := 60) hx hb dX7_begin_59 (by decide) ?_
  refine lv_icmp_ge (tgt := 86) hx hb dX7_begin_61 (by decide) (fun h9 => absurd h9 (by decide)) (fun _ => ?_)
  refine lv_aload_n hx hb dX7_begin_64 rfl (lv_at hl 1 rfl) ?_
  refine va_get (D := (dC, dI)) (ci := 7) (v := .ref q_62) (C := RX7) (T := TX7) (N := 18) hx hb hts mem_X7_begin_0 hown hK hP 0 rfl rfl 16 (by decide) (ow (k := 14) rfl) (fun _ h9 => h9) rfl dX7_begin_65 ?_
  refine lv_iload hx hb dX7_begin_68 (lv_at hl 0 rfl) ?_
  refine lv_iconst (v := 0) hx hb dX7_begin_70 (by decide) ?_
  refine va_zast hx hb hK hP hD hS 1 0 rfl rfl (show vp_in 52 60 by rw [vp_in_iff]; decide) dX7_begin_71 (fun H locs hP hD hS => ?_)
  have hP : va_P (dC, dI) vwP [(q_60, .inr (7, [.int 0, .ref q_1, .int 0, .int 0, .int 1, .int 0, .int 0, .int 0, .ref q_3, .int 0, .int 0, .int 0, .int 0, .long 0, .int 0, .int (-1), .ref q_62, .ref q_63])), (q_62, .inl (cA_64, 60, .inl (upd f_105 (52 : Int32).toNatClampNeg (vp_nar .boolean 0)))), (q_63, .inl (cA_65, 60, .inl f_106)), (q_3, .inr (0, [.int 0, .int 0, .int 0, .int 0, .ref q_4, .ref q_5, .ref q_6, .ref q_7, .ref q_8, .ref q_9, .ref q_10, .ref q_11, .ref q_12, .ref q_13, .ref q_14, .ref q_15, .ref q_16, .ref q_17, .ref q_18])), (q_4, .inl (cA_19, 301, .inl g0_1)), (q_15, .inl (cA_20, 301, .inl g1_2))] H := hP
  have hD : va_D A [(q_60, .inr (7, [.int 0, .ref q_1, .int 0, .int 0, .int 1, .int 0, .int 0, .int 0, .ref q_3, .int 0, .int 0, .int 0, .int 0, .long 0, .int 0, .int (-1), .ref q_62, .ref q_63])), (q_62, .inl (cA_64, 60, .inl (upd f_105 (52 : Int32).toNatClampNeg (vp_nar .boolean 0)))), (q_63, .inl (cA_65, 60, .inl f_106)), (q_3, .inr (0, [.int 0, .int 0, .int 0, .int 0, .ref q_4, .ref q_5, .ref q_6, .ref q_7, .ref q_8, .ref q_9, .ref q_10, .ref q_11, .ref q_12, .ref q_13, .ref q_14, .ref q_15, .ref q_16, .ref q_17, .ref q_18])), (q_4, .inl (cA_19, 301, .inl g0_1)), (q_15, .inl (cA_20, 301, .inl g1_2))] := hD
  generalize (upd f_105 (52 : Int32).toNatClampNeg (vp_nar .boolean 0)) = f_107 at hP hD
  refine lv_aload_n hx hb dX7_begin_72 rfl (lv_at hl 1 rfl) ?_
  refine va_get (D := (dC, dI)) (ci := 7) (v := .ref q_63) (C := RX7) (T := TX7) (N := 18) hx hb hts mem_X7_begin_0 hown hK hP 0 rfl rfl 17 (by decide) (ow (k := 15) rfl) (fun _ h9 => h9) rfl dX7_begin_73 ?_
  refine lv_iload hx hb dX7_begin_76 (lv_at hl 0 rfl) ?_
  refine lv_iconst (v := (-1)) hx hb dX7_begin_78 (by decide) ?_
  refine va_iast hx hb hK hP hD hS 2 1 rfl rfl (show vp_in 52 60 by rw [vp_in_iff]; decide) dX7_begin_79 (fun H locs hP hD hS => ?_)
  have hP : va_P (dC, dI) vwP [(q_60, .inr (7, [.int 0, .ref q_1, .int 0, .int 0, .int 1, .int 0, .int 0, .int 0, .ref q_3, .int 0, .int 0, .int 0, .int 0, .long 0, .int 0, .int (-1), .ref q_62, .ref q_63])), (q_62, .inl (cA_64, 60, .inl f_107)), (q_63, .inl (cA_65, 60, .inl (upd f_106 (52 : Int32).toNatClampNeg (-1)))), (q_3, .inr (0, [.int 0, .int 0, .int 0, .int 0, .ref q_4, .ref q_5, .ref q_6, .ref q_7, .ref q_8, .ref q_9, .ref q_10, .ref q_11, .ref q_12, .ref q_13, .ref q_14, .ref q_15, .ref q_16, .ref q_17, .ref q_18])), (q_4, .inl (cA_19, 301, .inl g0_1)), (q_15, .inl (cA_20, 301, .inl g1_2))] H := hP
  have hD : va_D A [(q_60, .inr (7, [.int 0, .ref q_1, .int 0, .int 0, .int 1, .int 0, .int 0, .int 0, .ref q_3, .int 0, .int 0, .int 0, .int 0, .long 0, .int 0, .int (-1), .ref q_62, .ref q_63])), (q_62, .inl (cA_64, 60, .inl f_107)), (q_63, .inl (cA_65, 60, .inl (upd f_106 (52 : Int32).toNatClampNeg (-1)))), (q_3, .inr (0, [.int 0, .int 0, .int 0, .int 0, .ref q_4, .ref q_5, .ref q_6, .ref q_7, .ref q_8, .ref q_9, .ref q_10, .ref q_11, .ref q_12, .ref q_13, .ref q_14, .ref q_15, .ref q_16, .ref q_17, .ref q_18])), (q_4, .inl (cA_19, 301, .inl g0_1)), (q_15, .inl (cA_20, 301, .inl g1_2))] := hD
  generalize (upd f_106 (52 : Int32).toNatClampNeg (-1)) = f_108 at hP hD
  refine lv_iinc (v := 53) (lv' := [(4, .int 53), (0, .ref q_60), (1, .ref q_1), (2, .int 0), (3, .ref q_3)]) hx hb dX7_begin_80 hl (k := 0) rfl (by decide) (by decide) rfl (fun ls hl => ?_)
  refine lv_goto (tgt := 57) hx hb dX7_begin_83 (by decide) ?_
  refine lv_iload hx hb dX7_begin_57 (lv_at hl 0 rfl) ?_
  refine lv_bipush (v := 60) hx hb dX7_begin_59 (by decide) ?_
  refine lv_icmp_ge (tgt := 86) hx hb dX7_begin_61 (by decide) (fun h9 => absurd h9 (by decide)) (fun _ => ?_)
  refine lv_aload_n hx hb dX7_begin_64 rfl (lv_at hl 1 rfl) ?_
  refine va_get (D := (dC, dI)) (ci := 7) (v := .ref q_62) (C := RX7) (T := TX7) (N := 18) hx hb hts mem_X7_begin_0 hown hK hP 0 rfl rfl 16 (by decide) (ow (k := 14) rfl) (fun _ h9 => h9) rfl dX7_begin_65 ?_
  refine lv_iload hx hb dX7_begin_68 (lv_at hl 0 rfl) ?_
  refine lv_iconst (v := 0) hx hb dX7_begin_70 (by decide) ?_
  refine va_zast hx hb hK hP hD hS 1 0 rfl rfl (show vp_in 53 60 by rw [vp_in_iff]; decide) dX7_begin_71 (fun H locs hP hD hS => ?_)
  have hP : va_P (dC, dI) vwP [(q_60, .inr (7, [.int 0, .ref q_1, .int 0, .int 0, .int 1, .int 0, .int 0, .int 0, .ref q_3, .int 0, .int 0, .int 0, .int 0, .long 0, .int 0, .int (-1), .ref q_62, .ref q_63])), (q_62, .inl (cA_64, 60, .inl (upd f_107 (53 : Int32).toNatClampNeg (vp_nar .boolean 0)))), (q_63, .inl (cA_65, 60, .inl f_108)), (q_3, .inr (0, [.int 0, .int 0, .int 0, .int 0, .ref q_4, .ref q_5, .ref q_6, .ref q_7, .ref q_8, .ref q_9, .ref q_10, .ref q_11, .ref q_12, .ref q_13, .ref q_14, .ref q_15, .ref q_16, .ref q_17, .ref q_18])), (q_4, .inl (cA_19, 301, .inl g0_1)), (q_15, .inl (cA_20, 301, .inl g1_2))] H := hP
  have hD : va_D A [(q_60, .inr (7, [.int 0, .ref q_1, .int 0, .int 0, .int 1, .int 0, .int 0, .int 0, .ref q_3, .int 0, .int 0, .int 0, .int 0, .long 0, .int 0, .int (-1), .ref q_62, .ref q_63])), (q_62, .inl (cA_64, 60, .inl (upd f_107 (53 : Int32).toNatClampNeg (vp_nar .boolean 0)))), (q_63, .inl (cA_65, 60, .inl f_108)), (q_3, .inr (0, [.int 0, .int 0, .int 0, .int 0, .ref q_4, .ref q_5, .ref q_6, .ref q_7, .ref q_8, .ref q_9, .ref q_10, .ref q_11, .ref q_12, .ref q_13, .ref q_14, .ref q_15, .ref q_16, .ref q_17, .ref q_18])), (q_4, .inl (cA_19, 301, .inl g0_1)), (q_15, .inl (cA_20, 301, .inl g1_2))] := hD
  generalize (upd f_107 (53 : Int32).toNatClampNeg (vp_nar .boolean 0)) = f_109 at hP hD
  refine lv_aload_n hx hb dX7_begin_72 rfl (lv_at hl 1 rfl) ?_
  refine va_get (D := (dC, dI)) (ci := 7) (v := .ref q_63) (C := RX7) (T := TX7) (N := 18) hx hb hts mem_X7_begin_0 hown hK hP 0 rfl rfl 17 (by decide) (ow (k := 15) rfl) (fun _ h9 => h9) rfl dX7_begin_73 ?_
  refine lv_iload hx hb dX7_begin_76 (lv_at hl 0 rfl) ?_
  refine lv_iconst (v := (-1)) hx hb dX7_begin_78 (by decide) ?_
  refine va_iast hx hb hK hP hD hS 2 1 rfl rfl (show vp_in 53 60 by rw [vp_in_iff]; decide) dX7_begin_79 (fun H locs hP hD hS => ?_)
  have hP : va_P (dC, dI) vwP [(q_60, .inr (7, [.int 0, .ref q_1, .int 0, .int 0, .int 1, .int 0, .int 0, .int 0, .ref q_3, .int 0, .int 0, .int 0, .int 0, .long 0, .int 0, .int (-1), .ref q_62, .ref q_63])), (q_62, .inl (cA_64, 60, .inl f_109)), (q_63, .inl (cA_65, 60, .inl (upd f_108 (53 : Int32).toNatClampNeg (-1)))), (q_3, .inr (0, [.int 0, .int 0, .int 0, .int 0, .ref q_4, .ref q_5, .ref q_6, .ref q_7, .ref q_8, .ref q_9, .ref q_10, .ref q_11, .ref q_12, .ref q_13, .ref q_14, .ref q_15, .ref q_16, .ref q_17, .ref q_18])), (q_4, .inl (cA_19, 301, .inl g0_1)), (q_15, .inl (cA_20, 301, .inl g1_2))] H := hP
  have hD : va_D A [(q_60, .inr (7, [.int 0, .ref q_1, .int 0, .int 0, .int 1, .int 0, .int 0, .int 0, .ref q_3, .int 0, .int 0, .int 0, .int 0, .long 0, .int 0, .int (-1), .ref q_62, .ref q_63])), (q_62, .inl (cA_64, 60, .inl f_109)), (q_63, .inl (cA_65, 60, .inl (upd f_108 (53 : Int32).toNatClampNeg (-1)))), (q_3, .inr (0, [.int 0, .int 0, .int 0, .int 0, .ref q_4, .ref q_5, .ref q_6, .ref q_7, .ref q_8, .ref q_9, .ref q_10, .ref q_11, .ref q_12, .ref q_13, .ref q_14, .ref q_15, .ref q_16, .ref q_17, .ref q_18])), (q_4, .inl (cA_19, 301, .inl g0_1)), (q_15, .inl (cA_20, 301, .inl g1_2))] := hD
  generalize (upd f_108 (53 : Int32).toNatClampNeg (-1)) = f_110 at hP hD
  refine lv_iinc (v := 54) (lv' := [(4, .int 54), (0, .ref q_60), (1, .ref q_1), (2, .int 0), (3, .ref q_3)]) hx hb dX7_begin_80 hl (k := 0) rfl (by decide) (by decide) rfl (fun ls hl => ?_)
  refine lv_goto (tgt := 57) hx hb dX7_begin_83 (by decide) ?_
  refine lv_iload hx hb dX7_begin_57 (lv_at hl 0 rfl) ?_
  refine lv_bipush (v := 60) hx hb dX7_begin_59 (by decide) ?_
  refine lv_icmp_ge (tgt := 86) hx hb dX7_begin_61 (by decide) (fun h9 => absurd h9 (by decide)) (fun _ => ?_)
  refine lv_aload_n hx hb dX7_begin_64 rfl (lv_at hl 1 rfl) ?_
  refine va_get (D := (dC, dI)) (ci := 7) (v := .ref q_62) (C := RX7) (T := TX7) (N := 18) hx hb hts mem_X7_begin_0 hown hK hP 0 rfl rfl 16 (by decide) (ow (k := 14) rfl) (fun _ h9 => h9) rfl dX7_begin_65 ?_
  refine lv_iload hx hb dX7_begin_68 (lv_at hl 0 rfl) ?_
  refine lv_iconst (v := 0) hx hb dX7_begin_70 (by decide) ?_
  refine va_zast hx hb hK hP hD hS 1 0 rfl rfl (show vp_in 54 60 by rw [vp_in_iff]; decide) dX7_begin_71 (fun H locs hP hD hS => ?_)
  have hP : va_P (dC, dI) vwP [(q_60, .inr (7, [.int 0, .ref q_1, .int 0, .int 0, .int 1, .int 0, .int 0, .int 0, .ref q_3, .int 0, .int 0, .int 0, .int 0, .long 0, .int 0, .int (-1), .ref q_62, .ref q_63])), (q_62, .inl (cA_64, 60, .inl (upd f_109 (54 : Int32).toNatClampNeg (vp_nar .boolean 0)))), (q_63, .inl (cA_65, 60, .inl f_110)), (q_3, .inr (0, [.int 0, .int 0, .int 0, .int 0, .ref q_4, .ref q_5, .ref q_6, .ref q_7, .ref q_8, .ref q_9, .ref q_10, .ref q_11, .ref q_12, .ref q_13, .ref q_14, .ref q_15, .ref q_16, .ref q_17, .ref q_18])), (q_4, .inl (cA_19, 301, .inl g0_1)), (q_15, .inl (cA_20, 301, .inl g1_2))] H := hP
  have hD : va_D A [(q_60, .inr (7, [.int 0, .ref q_1, .int 0, .int 0, .int 1, .int 0, .int 0, .int 0, .ref q_3, .int 0, .int 0, .int 0, .int 0, .long 0, .int 0, .int (-1), .ref q_62, .ref q_63])), (q_62, .inl (cA_64, 60, .inl (upd f_109 (54 : Int32).toNatClampNeg (vp_nar .boolean 0)))), (q_63, .inl (cA_65, 60, .inl f_110)), (q_3, .inr (0, [.int 0, .int 0, .int 0, .int 0, .ref q_4, .ref q_5, .ref q_6, .ref q_7, .ref q_8, .ref q_9, .ref q_10, .ref q_11, .ref q_12, .ref q_13, .ref q_14, .ref q_15, .ref q_16, .ref q_17, .ref q_18])), (q_4, .inl (cA_19, 301, .inl g0_1)), (q_15, .inl (cA_20, 301, .inl g1_2))] := hD
  generalize (upd f_109 (54 : Int32).toNatClampNeg (vp_nar .boolean 0)) = f_111 at hP hD
  refine lv_aload_n hx hb dX7_begin_72 rfl (lv_at hl 1 rfl) ?_
  refine va_get (D := (dC, dI)) (ci := 7) (v := .ref q_63) (C := RX7) (T := TX7) (N := 18) hx hb hts mem_X7_begin_0 hown hK hP 0 rfl rfl 17 (by decide) (ow (k := 15) rfl) (fun _ h9 => h9) rfl dX7_begin_73 ?_
  refine lv_iload hx hb dX7_begin_76 (lv_at hl 0 rfl) ?_
  refine lv_iconst (v := (-1)) hx hb dX7_begin_78 (by decide) ?_
  refine va_iast hx hb hK hP hD hS 2 1 rfl rfl (show vp_in 54 60 by rw [vp_in_iff]; decide) dX7_begin_79 (fun H locs hP hD hS => ?_)
  have hP : va_P (dC, dI) vwP [(q_60, .inr (7, [.int 0, .ref q_1, .int 0, .int 0, .int 1, .int 0, .int 0, .int 0, .ref q_3, .int 0, .int 0, .int 0, .int 0, .long 0, .int 0, .int (-1), .ref q_62, .ref q_63])), (q_62, .inl (cA_64, 60, .inl f_111)), (q_63, .inl (cA_65, 60, .inl (upd f_110 (54 : Int32).toNatClampNeg (-1)))), (q_3, .inr (0, [.int 0, .int 0, .int 0, .int 0, .ref q_4, .ref q_5, .ref q_6, .ref q_7, .ref q_8, .ref q_9, .ref q_10, .ref q_11, .ref q_12, .ref q_13, .ref q_14, .ref q_15, .ref q_16, .ref q_17, .ref q_18])), (q_4, .inl (cA_19, 301, .inl g0_1)), (q_15, .inl (cA_20, 301, .inl g1_2))] H := hP
  have hD : va_D A [(q_60, .inr (7, [.int 0, .ref q_1, .int 0, .int 0, .int 1, .int 0, .int 0, .int 0, .ref q_3, .int 0, .int 0, .int 0, .int 0, .long 0, .int 0, .int (-1), .ref q_62, .ref q_63])), (q_62, .inl (cA_64, 60, .inl f_111)), (q_63, .inl (cA_65, 60, .inl (upd f_110 (54 : Int32).toNatClampNeg (-1)))), (q_3, .inr (0, [.int 0, .int 0, .int 0, .int 0, .ref q_4, .ref q_5, .ref q_6, .ref q_7, .ref q_8, .ref q_9, .ref q_10, .ref q_11, .ref q_12, .ref q_13, .ref q_14, .ref q_15, .ref q_16, .ref q_17, .ref q_18])), (q_4, .inl (cA_19, 301, .inl g0_1)), (q_15, .inl (cA_20, 301, .inl g1_2))] := hD
  generalize (upd f_110 (54 : Int32).toNatClampNeg (-1)) = f_112 at hP hD
  refine lv_iinc (v := 55) (lv' := [(4, .int 55), (0, .ref q_60), (1, .ref q_1), (2, .int 0), (3, .ref q_3)]) hx hb dX7_begin_80 hl (k := 0) rfl (by decide) (by decide) rfl (fun ls hl => ?_)
  refine lv_goto (tgt := 57) hx hb dX7_begin_83 (by decide) ?_
  refine lv_iload hx hb dX7_begin_57 (lv_at hl 0 rfl) ?_
  refine lv_bipush (v := 60) hx hb dX7_begin_59 (by decide) ?_
  refine lv_icmp_ge (tgt := 86) hx hb dX7_begin_61 (by decide) (fun h9 => absurd h9 (by decide)) (fun _ => ?_)
  refine lv_aload_n hx hb dX7_begin_64 rfl (lv_at hl 1 rfl) ?_
  refine va_get (D := (dC, dI)) (ci := 7) (v := .ref q_62) (C := RX7) (T := TX7) (N := 18) hx hb hts mem_X7_begin_0 hown hK hP 0 rfl rfl 16 (by decide) (ow (k := 14) rfl) (fun _ h9 => h9) rfl dX7_begin_65 ?_
  refine lv_iload hx hb dX7_begin_68 (lv_at hl 0 rfl) ?_
  refine lv_iconst (v := 0) hx hb dX7_begin_70 (by decide) ?_
  refine va_zast hx hb hK hP hD hS 1 0 rfl rfl (show vp_in 55 60 by rw [vp_in_iff]; decide) dX7_begin_71 (fun H locs hP hD hS => ?_)
  have hP : va_P (dC, dI) vwP [(q_60, .inr (7, [.int 0, .ref q_1, .int 0, .int 0, .int 1, .int 0, .int 0, .int 0, .ref q_3, .int 0, .int 0, .int 0, .int 0, .long 0, .int 0, .int (-1), .ref q_62, .ref q_63])), (q_62, .inl (cA_64, 60, .inl (upd f_111 (55 : Int32).toNatClampNeg (vp_nar .boolean 0)))), (q_63, .inl (cA_65, 60, .inl f_112)), (q_3, .inr (0, [.int 0, .int 0, .int 0, .int 0, .ref q_4, .ref q_5, .ref q_6, .ref q_7, .ref q_8, .ref q_9, .ref q_10, .ref q_11, .ref q_12, .ref q_13, .ref q_14, .ref q_15, .ref q_16, .ref q_17, .ref q_18])), (q_4, .inl (cA_19, 301, .inl g0_1)), (q_15, .inl (cA_20, 301, .inl g1_2))] H := hP
  have hD : va_D A [(q_60, .inr (7, [.int 0, .ref q_1, .int 0, .int 0, .int 1, .int 0, .int 0, .int 0, .ref q_3, .int 0, .int 0, .int 0, .int 0, .long 0, .int 0, .int (-1), .ref q_62, .ref q_63])), (q_62, .inl (cA_64, 60, .inl (upd f_111 (55 : Int32).toNatClampNeg (vp_nar .boolean 0)))), (q_63, .inl (cA_65, 60, .inl f_112)), (q_3, .inr (0, [.int 0, .int 0, .int 0, .int 0, .ref q_4, .ref q_5, .ref q_6, .ref q_7, .ref q_8, .ref q_9, .ref q_10, .ref q_11, .ref q_12, .ref q_13, .ref q_14, .ref q_15, .ref q_16, .ref q_17, .ref q_18])), (q_4, .inl (cA_19, 301, .inl g0_1)), (q_15, .inl (cA_20, 301, .inl g1_2))] := hD
  generalize (upd f_111 (55 : Int32).toNatClampNeg (vp_nar .boolean 0)) = f_113 at hP hD
  refine lv_aload_n hx hb dX7_begin_72 rfl (lv_at hl 1 rfl) ?_
  refine va_get (D := (dC, dI)) (ci := 7) (v := .ref q_63) (C := RX7) (T := TX7) (N := 18) hx hb hts mem_X7_begin_0 hown hK hP 0 rfl rfl 17 (by decide) (ow (k := 15) rfl) (fun _ h9 => h9) rfl dX7_begin_73 ?_
  refine lv_iload hx hb dX7_begin_76 (lv_at hl 0 rfl) ?_
  refine lv_iconst (v := (-1)) hx hb dX7_begin_78 (by decide) ?_
  refine va_iast hx hb hK hP hD hS 2 1 rfl rfl (show vp_in 55 60 by rw [vp_in_iff]; decide) dX7_begin_79 (fun H locs hP hD hS => ?_)
  have hP : va_P (dC, dI) vwP [(q_60, .inr (7, [.int 0, .ref q_1, .int 0, .int 0, .int 1, .int 0, .int 0, .int 0, .ref q_3, .int 0, .int 0, .int 0, .int 0, .long 0, .int 0, .int (-1), .ref q_62, .ref q_63])), (q_62, .inl (cA_64, 60, .inl f_113)), (q_63, .inl (cA_65, 60, .inl (upd f_112 (55 : Int32).toNatClampNeg (-1)))), (q_3, .inr (0, [.int 0, .int 0, .int 0, .int 0, .ref q_4, .ref q_5, .ref q_6, .ref q_7, .ref q_8, .ref q_9, .ref q_10, .ref q_11, .ref q_12, .ref q_13, .ref q_14, .ref q_15, .ref q_16, .ref q_17, .ref q_18])), (q_4, .inl (cA_19, 301, .inl g0_1)), (q_15, .inl (cA_20, 301, .inl g1_2))] H := hP
  have hD : va_D A [(q_60, .inr (7, [.int 0, .ref q_1, .int 0, .int 0, .int 1, .int 0, .int 0, .int 0, .ref q_3, .int 0, .int 0, .int 0, .int 0, .long 0, .int 0, .int (-1), .ref q_62, .ref q_63])), (q_62, .inl (cA_64, 60, .inl f_113)), (q_63, .inl (cA_65, 60, .inl (upd f_112 (55 : Int32).toNatClampNeg (-1)))), (q_3, .inr (0, [.int 0, .int 0, .int 0, .int 0, .ref q_4, .ref q_5, .ref q_6, .ref q_7, .ref q_8, .ref q_9, .ref q_10, .ref q_11, .ref q_12, .ref q_13, .ref q_14, .ref q_15, .ref q_16, .ref q_17, .ref q_18])), (q_4, .inl (cA_19, 301, .inl g0_1)), (q_15, .inl (cA_20, 301, .inl g1_2))] := hD
  generalize (upd f_112 (55 : Int32).toNatClampNeg (-1)) = f_114 at hP hD
  refine lv_iinc (v := 56) (lv' := [(4, .int 56), (0, .ref q_60), (1, .ref q_1), (2, .int 0), (3, .ref q_3)]) hx hb dX7_begin_80 hl (k := 0) rfl (by decide) (by decide) rfl (fun ls hl => ?_)
  refine lv_goto (tgt := 57) hx hb dX7_begin_83 (by decide) ?_
  refine lv_iload hx hb dX7_begin_57 (lv_at hl 0 rfl) ?_
  refine lv_bipush (v := 60) hx hb dX7_begin_59 (by decide) ?_
  refine lv_icmp_ge (tgt := 86) hx hb dX7_begin_61 (by decide) (fun h9 => absurd h9 (by decide)) (fun _ => ?_)
  refine lv_aload_n hx hb dX7_begin_64 rfl (lv_at hl 1 rfl) ?_
  refine va_get (D := (dC, dI)) (ci := 7) (v := .ref q_62) (C := RX7) (T := TX7) (N := 18) hx hb hts mem_X7_begin_0 hown hK hP 0 rfl rfl 16 (by decide) (ow (k := 14) rfl) (fun _ h9 => h9) rfl dX7_begin_65 ?_
  refine lv_iload hx hb dX7_begin_68 (lv_at hl 0 rfl) ?_
  refine lv_iconst (v := 0) hx hb dX7_begin_70 (by decide) ?_
  refine va_zast hx hb hK hP hD hS 1 0 rfl rfl (show vp_in 56 60 by rw [vp_in_iff]; decide) dX7_begin_71 (fun H locs hP hD hS => ?_)
  have hP : va_P (dC, dI) vwP [(q_60, .inr (7, [.int 0, .ref q_1, .int 0, .int 0, .int 1, .int 0, .int 0, .int 0, .ref q_3, .int 0, .int 0, .int 0, .int 0, .long 0, .int 0, .int (-1), .ref q_62, .ref q_63])), (q_62, .inl (cA_64, 60, .inl (upd f_113 (56 : Int32).toNatClampNeg (vp_nar .boolean 0)))), (q_63, .inl (cA_65, 60, .inl f_114)), (q_3, .inr (0, [.int 0, .int 0, .int 0, .int 0, .ref q_4, .ref q_5, .ref q_6, .ref q_7, .ref q_8, .ref q_9, .ref q_10, .ref q_11, .ref q_12, .ref q_13, .ref q_14, .ref q_15, .ref q_16, .ref q_17, .ref q_18])), (q_4, .inl (cA_19, 301, .inl g0_1)), (q_15, .inl (cA_20, 301, .inl g1_2))] H := hP
  have hD : va_D A [(q_60, .inr (7, [.int 0, .ref q_1, .int 0, .int 0, .int 1, .int 0, .int 0, .int 0, .ref q_3, .int 0, .int 0, .int 0, .int 0, .long 0, .int 0, .int (-1), .ref q_62, .ref q_63])), (q_62, .inl (cA_64, 60, .inl (upd f_113 (56 : Int32).toNatClampNeg (vp_nar .boolean 0)))), (q_63, .inl (cA_65, 60, .inl f_114)), (q_3, .inr (0, [.int 0, .int 0, .int 0, .int 0, .ref q_4, .ref q_5, .ref q_6, .ref q_7, .ref q_8, .ref q_9, .ref q_10, .ref q_11, .ref q_12, .ref q_13, .ref q_14, .ref q_15, .ref q_16, .ref q_17, .ref q_18])), (q_4, .inl (cA_19, 301, .inl g0_1)), (q_15, .inl (cA_20, 301, .inl g1_2))] := hD
  generalize (upd f_113 (56 : Int32).toNatClampNeg (vp_nar .boolean 0)) = f_115 at hP hD
  refine lv_aload_n hx hb dX7_begin_72 rfl (lv_at hl 1 rfl) ?_
  refine va_get (D := (dC, dI)) (ci := 7) (v := .ref q_63) (C := RX7) (T := TX7) (N := 18) hx hb hts mem_X7_begin_0 hown hK hP 0 rfl rfl 17 (by decide) (ow (k := 15) rfl) (fun _ h9 => h9) rfl dX7_begin_73 ?_
  refine lv_iload hx hb dX7_begin_76 (lv_at hl 0 rfl) ?_
  refine lv_iconst (v := (-1)) hx hb dX7_begin_78 (by decide) ?_
  refine va_iast hx hb hK hP hD hS 2 1 rfl rfl (show vp_in 56 60 by rw [vp_in_iff]; decide) dX7_begin_79 (fun H locs hP hD hS => ?_)
  have hP : va_P (dC, dI) vwP [(q_60, .inr (7, [.int 0, .ref q_1, .int 0, .int 0, .int 1, .int 0, .int 0, .int 0, .ref q_3, .int 0, .int 0, .int 0, .int 0, .long 0, .int 0, .int (-1), .ref q_62, .ref q_63])), (q_62, .inl (cA_64, 60, .inl f_115)), (q_63, .inl (cA_65, 60, .inl (upd f_114 (56 : Int32).toNatClampNeg (-1)))), (q_3, .inr (0, [.int 0, .int 0, .int 0, .int 0, .ref q_4, .ref q_5, .ref q_6, .ref q_7, .ref q_8, .ref q_9, .ref q_10, .ref q_11, .ref q_12, .ref q_13, .ref q_14, .ref q_15, .ref q_16, .ref q_17, .ref q_18])), (q_4, .inl (cA_19, 301, .inl g0_1)), (q_15, .inl (cA_20, 301, .inl g1_2))] H := hP
  have hD : va_D A [(q_60, .inr (7, [.int 0, .ref q_1, .int 0, .int 0, .int 1, .int 0, .int 0, .int 0, .ref q_3, .int 0, .int 0, .int 0, .int 0, .long 0, .int 0, .int (-1), .ref q_62, .ref q_63])), (q_62, .inl (cA_64, 60, .inl f_115)), (q_63, .inl (cA_65, 60, .inl (upd f_114 (56 : Int32).toNatClampNeg (-1)))), (q_3, .inr (0, [.int 0, .int 0, .int 0, .int 0, .ref q_4, .ref q_5, .ref q_6, .ref q_7, .ref q_8, .ref q_9, .ref q_10, .ref q_11, .ref q_12, .ref q_13, .ref q_14, .ref q_15, .ref q_16, .ref q_17, .ref q_18])), (q_4, .inl (cA_19, 301, .inl g0_1)), (q_15, .inl (cA_20, 301, .inl g1_2))] := hD
  generalize (upd f_114 (56 : Int32).toNatClampNeg (-1)) = f_116 at hP hD
  refine lv_iinc (v := 57) (lv' := [(4, .int 57), (0, .ref q_60), (1, .ref q_1), (2, .int 0), (3, .ref q_3)]) hx hb dX7_begin_80 hl (k := 0) rfl (by decide) (by decide) rfl (fun ls hl => ?_)
  refine lv_goto (tgt := 57) hx hb dX7_begin_83 (by decide) ?_
  refine lv_iload hx hb dX7_begin_57 (lv_at hl 0 rfl) ?_
  refine lv_bipush (v := 60) hx hb dX7_begin_59 (by decide) ?_
  refine lv_icmp_ge (tgt := 86) hx hb dX7_begin_61 (by decide) (fun h9 => absurd h9 (by decide)) (fun _ => ?_)
  refine lv_aload_n hx hb dX7_begin_64 rfl (lv_at hl 1 rfl) ?_
  refine va_get (D := (dC, dI)) (ci := 7) (v := .ref q_62) (C := RX7) (T := TX7) (N := 18) hx hb hts mem_X7_begin_0 hown hK hP 0 rfl rfl 16 (by decide) (ow (k := 14) rfl) (fun _ h9 => h9) rfl dX7_begin_65 ?_
  refine lv_iload hx hb dX7_begin_68 (lv_at hl 0 rfl) ?_
  refine lv_iconst (v := 0) hx hb dX7_begin_70 (by decide) ?_
  refine va_zast hx hb hK hP hD hS 1 0 rfl rfl (show vp_in 57 60 by rw [vp_in_iff]; decide) dX7_begin_71 (fun H locs hP hD hS => ?_)
  have hP : va_P (dC, dI) vwP [(q_60, .inr (7, [.int 0, .ref q_1, .int 0, .int 0, .int 1, .int 0, .int 0, .int 0, .ref q_3, .int 0, .int 0, .int 0, .int 0, .long 0, .int 0, .int (-1), .ref q_62, .ref q_63])), (q_62, .inl (cA_64, 60, .inl (upd f_115 (57 : Int32).toNatClampNeg (vp_nar .boolean 0)))), (q_63, .inl (cA_65, 60, .inl f_116)), (q_3, .inr (0, [.int 0, .int 0, .int 0, .int 0, .ref q_4, .ref q_5, .ref q_6, .ref q_7, .ref q_8, .ref q_9, .ref q_10, .ref q_11, .ref q_12, .ref q_13, .ref q_14, .ref q_15, .ref q_16, .ref q_17, .ref q_18])), (q_4, .inl (cA_19, 301, .inl g0_1)), (q_15, .inl (cA_20, 301, .inl g1_2))] H := hP
  have hD : va_D A [(q_60, .inr (7, [.int 0, .ref q_1, .int 0, .int 0, .int 1, .int 0, .int 0, .int 0, .ref q_3, .int 0, .int 0, .int 0, .int 0, .long 0, .int 0, .int (-1), .ref q_62, .ref q_63])), (q_62, .inl (cA_64, 60, .inl (upd f_115 (57 : Int32).toNatClampNeg (vp_nar .boolean 0)))), (q_63, .inl (cA_65, 60, .inl f_116)), (q_3, .inr (0, [.int 0, .int 0, .int 0, .int 0, .ref q_4, .ref q_5, .ref q_6, .ref q_7, .ref q_8, .ref q_9, .ref q_10, .ref q_11, .ref q_12, .ref q_13, .ref q_14, .ref q_15, .ref q_16, .ref q_17, .ref q_18])), (q_4, .inl (cA_19, 301, .inl g0_1)), (q_15, .inl (cA_20, 301, .inl g1_2))] := hD
  generalize (upd f_115 (57 : Int32).toNatClampNeg (vp_nar .boolean 0)) = f_117 at hP hD
  refine lv_aload_n hx hb dX7_begin_72 rfl (lv_at hl 1 rfl) ?_
  refine va_get (D := (dC, dI)) (ci := 7) (v := .ref q_63) (C := RX7) (T := TX7) (N := 18) hx hb hts mem_X7_begin_0 hown hK hP 0 rfl rfl 17 (by decide) (ow (k := 15) rfl) (fun _ h9 => h9) rfl dX7_begin_73 ?_
  refine lv_iload hx hb dX7_begin_76 (lv_at hl 0 rfl) ?_
  refine lv_iconst (v := (-1)) hx hb dX7_begin_78 (by decide) ?_
  refine va_iast hx hb hK hP hD hS 2 1 rfl rfl (show vp_in 57 60 by rw [vp_in_iff]; decide) dX7_begin_79 (fun H locs hP hD hS => ?_)
  have hP : va_P (dC, dI) vwP [(q_60, .inr (7, [.int 0, .ref q_1, .int 0, .int 0, .int 1, .int 0, .int 0, .int 0, .ref q_3, .int 0, .int 0, .int 0, .int 0, .long 0, .int 0, .int (-1), .ref q_62, .ref q_63])), (q_62, .inl (cA_64, 60, .inl f_117)), (q_63, .inl (cA_65, 60, .inl (upd f_116 (57 : Int32).toNatClampNeg (-1)))), (q_3, .inr (0, [.int 0, .int 0, .int 0, .int 0, .ref q_4, .ref q_5, .ref q_6, .ref q_7, .ref q_8, .ref q_9, .ref q_10, .ref q_11, .ref q_12, .ref q_13, .ref q_14, .ref q_15, .ref q_16, .ref q_17, .ref q_18])), (q_4, .inl (cA_19, 301, .inl g0_1)), (q_15, .inl (cA_20, 301, .inl g1_2))] H := hP
  have hD : va_D A [(q_60, .inr (7, [.int 0, .ref q_1, .int 0, .int 0, .int 1, .int 0, .int 0, .int 0, .ref q_3, .int 0, .int 0, .int 0, .int 0, .long 0, .int 0, .int (-1), .ref q_62, .ref q_63])), (q_62, .inl (cA_64, 60, .inl f_117)), (q_63, .inl (cA_65, 60, .inl (upd f_116 (57 : Int32).toNatClampNeg (-1)))), (q_3, .inr (0, [.int 0, .int 0, .int 0, .int 0, .ref q_4, .ref q_5, .ref q_6, .ref q_7, .ref q_8, .ref q_9, .ref q_10, .ref q_11, .ref q_12, .ref q_13, .ref q_14, .ref q_15, .ref q_16, .ref q_17, .ref q_18])), (q_4, .inl (cA_19, 301, .inl g0_1)), (q_15, .inl (cA_20, 301, .inl g1_2))] := hD
  generalize (upd f_116 (57 : Int32).toNatClampNeg (-1)) = f_118 at hP hD
  refine lv_iinc (v := 58) (lv' := [(4, .int 58), (0, .ref q_60), (1, .ref q_1), (2, .int 0), (3, .ref q_3)]) hx hb dX7_begin_80 hl (k := 0) rfl (by decide) (by decide) rfl (fun ls hl => ?_)
  refine lv_goto (tgt := 57) hx hb dX7_begin_83 (by decide) ?_
  refine lv_iload hx hb dX7_begin_57 (lv_at hl 0 rfl) ?_
  refine lv_bipush (v := 60) hx hb dX7_begin_59 (by decide) ?_
  refine lv_icmp_ge (tgt := 86) hx hb dX7_begin_61 (by decide) (fun h9 => absurd h9 (by decide)) (fun _ => ?_)
  refine lv_aload_n hx hb dX7_begin_64 rfl (lv_at hl 1 rfl) ?_
  refine va_get (D := (dC, dI)) (ci := 7) (v := .ref q_62) (C := RX7) (T := TX7) (N := 18) hx hb hts mem_X7_begin_0 hown hK hP 0 rfl rfl 16 (by decide) (ow (k := 14) rfl) (fun _ h9 => h9) rfl dX7_begin_65 ?_
  refine lv_iload hx hb dX7_begin_68 (lv_at hl 0 rfl) ?_
  refine lv_iconst (v := 0) hx hb dX7_begin_70 (by decide) ?_
  refine va_zast hx hb hK hP hD hS 1 0 rfl rfl (show vp_in 58 60 by rw [vp_in_iff]; decide) dX7_begin_71 (fun H locs hP hD hS => ?_)
  have hP : va_P (dC, dI) vwP [(q_60, .inr (7, [.int 0, .ref q_1, .int 0, .int 0, .int 1, .int 0, .int 0, .int 0, .ref q_3, .int 0, .int 0, .int 0, .int 0, .long 0, .int 0, .int (-1), .ref q_62, .ref q_63])), (q_62, .inl (cA_64, 60, .inl (upd f_117 (58 : Int32).toNatClampNeg (vp_nar .boolean 0)))), (q_63, .inl (cA_65, 60, .inl f_118)), (q_3, .inr (0, [.int 0, .int 0, .int 0, .int 0, .ref q_4, .ref q_5, .ref q_6, .ref q_7, .ref q_8, .ref q_9, .ref q_10, .ref q_11, .ref q_12, .ref q_13, .ref q_14, .ref q_15, .ref q_16, .ref q_17, .ref q_18])), (q_4, .inl (cA_19, 301, .inl g0_1)), (q_15, .inl (cA_20, 301, .inl g1_2))] H := hP
  have hD : va_D A [(q_60, .inr (7, [.int 0, .ref q_1, .int 0, .int 0, .int 1, .int 0, .int 0, .int 0, .ref q_3, .int 0, .int 0, .int 0, .int 0, .long 0, .int 0, .int (-1), .ref q_62, .ref q_63])), (q_62, .inl (cA_64, 60, .inl (upd f_117 (58 : Int32).toNatClampNeg (vp_nar .boolean 0)))), (q_63, .inl (cA_65, 60, .inl f_118)), (q_3, .inr (0, [.int 0, .int 0, .int 0, .int 0, .ref q_4, .ref q_5, .ref q_6, .ref q_7, .ref q_8, .ref q_9, .ref q_10, .ref q_11, .ref q_12, .ref q_13, .ref q_14, .ref q_15, .ref q_16, .ref q_17, .ref q_18])), (q_4, .inl (cA_19, 301, .inl g0_1)), (q_15, .inl (cA_20, 301, .inl g1_2))] := hD
  generalize (upd f_117 (58 : Int32).toNatClampNeg (vp_nar .boolean 0)) = f_119 at hP hD
  refine lv_aload_n hx hb dX7_begin_72 rfl (lv_at hl 1 rfl) ?_
  refine va_get (D := (dC, dI)) (ci := 7) (v := .ref q_63) (C := RX7) (T := TX7) (N := 18) hx hb hts mem_X7_begin_0 hown hK hP 0 rfl rfl 17 (by decide) (ow (k := 15) rfl) (fun _ h9 => h9) rfl dX7_begin_73 ?_
  refine lv_iload hx hb dX7_begin_76 (lv_at hl 0 rfl) ?_
  refine lv_iconst (v := (-1)) hx hb dX7_begin_78 (by decide) ?_
  refine va_iast hx hb hK hP hD hS 2 1 rfl rfl (show vp_in 58 60 by rw [vp_in_iff]; decide) dX7_begin_79 (fun H locs hP hD hS => ?_)
  have hP : va_P (dC, dI) vwP [(q_60, .inr (7, [.int 0, .ref q_1, .int 0, .int 0, .int 1, .int 0, .int 0, .int 0, .ref q_3, .int 0, .int 0, .int 0, .int 0, .long 0, .int 0, .int (-1), .ref q_62, .ref q_63])), (q_62, .inl (cA_64, 60, .inl f_119)), (q_63, .inl (cA_65, 60, .inl (upd f_118 (58 : Int32).toNatClampNeg (-1)))), (q_3, .inr (0, [.int 0, .int 0, .int 0, .int 0, .ref q_4, .ref q_5, .ref q_6, .ref q_7, .ref q_8, .ref q_9, .ref q_10, .ref q_11, .ref q_12, .ref q_13, .ref q_14, .ref q_15, .ref q_16, .ref q_17, .ref q_18])), (q_4, .inl (cA_19, 301, .inl g0_1)), (q_15, .inl (cA_20, 301, .inl g1_2))] H := hP
  have hD : va_D A [(q_60, .inr (7, [.int 0, .ref q_1, .int 0, .int 0, .int 1, .int 0, .int 0, .int 0, .ref q_3, .int 0, .int 0, .int 0, .int 0, .long 0, .int 0, .int (-1), .ref q_62, .ref q_63])), (q_62, .inl (cA_64, 60, .inl f_119)), (q_63, .inl (cA_65, 60, .inl (upd f_118 (58 : Int32).toNatClampNeg (-1)))), (q_3, .inr (0, [.int 0, .int 0, .int 0, .int 0, .ref q_4, .ref q_5, .ref q_6, .ref q_7, .ref q_8, .ref q_9, .ref q_10, .ref q_11, .ref q_12, .ref q_13, .ref q_14, .ref q_15, .ref q_16, .ref q_17, .ref q_18])), (q_4, .inl (cA_19, 301, .inl g0_1)), (q_15, .inl (cA_20, 301, .inl g1_2))] := hD
  generalize (upd f_118 (58 : Int32).toNatClampNeg (-1)) = f_120 at hP hD
  refine lv_iinc (v := 59) (lv' := [(4, .int 59), (0, .ref q_60), (1, .ref q_1), (2, .int 0), (3, .ref q_3)]) hx hb dX7_begin_80 hl (k := 0) rfl (by decide) (by decide) rfl (fun ls hl => ?_)
  refine lv_goto (tgt := 57) hx hb dX7_begin_83 (by decide) ?_
  refine lv_iload hx hb dX7_begin_57 (lv_at hl 0 rfl) ?_
  refine lv_bipush (v := 60) hx hb dX7_begin_59 (by decide) ?_
  refine lv_icmp_ge (tgt := 86) hx hb dX7_begin_61 (by decide) (fun h9 => absurd h9 (by decide)) (fun _ => ?_)
  refine lv_aload_n hx hb dX7_begin_64 rfl (lv_at hl 1 rfl) ?_
  refine va_get (D := (dC, dI)) (ci := 7) (v := .ref q_62) (C := RX7) (T := TX7) (N := 18) hx hb hts mem_X7_begin_0 hown hK hP 0 rfl rfl 16 (by decide) (ow (k := 14) rfl) (fun _ h9 => h9) rfl dX7_begin_65 ?_
  refine lv_iload hx hb dX7_begin_68 (lv_at hl 0 rfl) ?_
  refine lv_iconst (v := 0) hx hb dX7_begin_70 (by decide) ?_
  refine va_zast hx hb hK hP hD hS 1 0 rfl rfl (show vp_in 59 60 by rw [vp_in_iff]; decide) dX7_begin_71 (fun H locs hP hD hS => ?_)
  have hP : va_P (dC, dI) vwP [(q_60, .inr (7, [.int 0, .ref q_1, .int 0, .int 0, .int 1, .int 0, .int 0, .int 0, .ref q_3, .int 0, .int 0, .int 0, .int 0, .long 0, .int 0, .int (-1), .ref q_62, .ref q_63])), (q_62, .inl (cA_64, 60, .inl (upd f_119 (59 : Int32).toNatClampNeg (vp_nar .boolean 0)))), (q_63, .inl (cA_65, 60, .inl f_120)), (q_3, .inr (0, [.int 0, .int 0, .int 0, .int 0, .ref q_4, .ref q_5, .ref q_6, .ref q_7, .ref q_8, .ref q_9, .ref q_10, .ref q_11, .ref q_12, .ref q_13, .ref q_14, .ref q_15, .ref q_16, .ref q_17, .ref q_18])), (q_4, .inl (cA_19, 301, .inl g0_1)), (q_15, .inl (cA_20, 301, .inl g1_2))] H := hP
  have hD : va_D A [(q_60, .inr (7, [.int 0, .ref q_1, .int 0, .int 0, .int 1, .int 0, .int 0, .int 0, .ref q_3, .int 0, .int 0, .int 0, .int 0, .long 0, .int 0, .int (-1), .ref q_62, .ref q_63])), (q_62, .inl (cA_64, 60, .inl (upd f_119 (59 : Int32).toNatClampNeg (vp_nar .boolean 0)))), (q_63, .inl (cA_65, 60, .inl f_120)), (q_3, .inr (0, [.int 0, .int 0, .int 0, .int 0, .ref q_4, .ref q_5, .ref q_6, .ref q_7, .ref q_8, .ref q_9, .ref q_10, .ref q_11, .ref q_12, .ref q_13, .ref q_14, .ref q_15, .ref q_16, .ref q_17, .ref q_18])), (q_4, .inl (cA_19, 301, .inl g0_1)), (q_15, .inl (cA_20, 301, .inl g1_2))] := hD
  generalize (upd f_119 (59 : Int32).toNatClampNeg (vp_nar .boolean 0)) = f_121 at hP hD
  refine lv_aload_n hx hb dX7_begin_72 rfl (lv_at hl 1 rfl) ?_
  refine va_get (D := (dC, dI)) (ci := 7) (v := .ref q_63) (C := RX7) (T := TX7) (N := 18) hx hb hts mem_X7_begin_0 hown hK hP 0 rfl rfl 17 (by decide) (ow (k := 15) rfl) (fun _ h9 => h9) rfl dX7_begin_73 ?_
  refine lv_iload hx hb dX7_begin_76 (lv_at hl 0 rfl) ?_
  refine lv_iconst (v := (-1)) hx hb dX7_begin_78 (by decide) ?_
  refine va_iast hx hb hK hP hD hS 2 1 rfl rfl (show vp_in 59 60 by rw [vp_in_iff]; decide) dX7_begin_79 (fun H locs hP hD hS => ?_)
  have hP : va_P (dC, dI) vwP [(q_60, .inr (7, [.int 0, .ref q_1, .int 0, .int 0, .int 1, .int 0, .int 0, .int 0, .ref q_3, .int 0, .int 0, .int 0, .int 0, .long 0, .int 0, .int (-1), .ref q_62, .ref q_63])), (q_62, .inl (cA_64, 60, .inl f_121)), (q_63, .inl (cA_65, 60, .inl (upd f_120 (59 : Int32).toNatClampNeg (-1)))), (q_3, .inr (0, [.int 0, .int 0, .int 0, .int 0, .ref q_4, .ref q_5, .ref q_6, .ref q_7, .ref q_8, .ref q_9, .ref q_10, .ref q_11, .ref q_12, .ref q_13, .ref q_14, .ref q_15, .ref q_16, .ref q_17, .ref q_18])), (q_4, .inl (cA_19, 301, .inl g0_1)), (q_15, .inl (cA_20, 301, .inl g1_2))] H := hP
  have hD : va_D A [(q_60, .inr (7, [.int 0, .ref q_1, .int 0, .int 0, .int 1, .int 0, .int 0, .int 0, .ref q_3, .int 0, .int 0, .int 0, .int 0, .long 0, .int 0, .int (-1), .ref q_62, .ref q_63])), (q_62, .inl (cA_64, 60, .inl f_121)), (q_63, .inl (cA_65, 60, .inl (upd f_120 (59 : Int32).toNatClampNeg (-1)))), (q_3, .inr (0, [.int 0, .int 0, .int 0, .int 0, .ref q_4, .ref q_5, .ref q_6, .ref q_7, .ref q_8, .ref q_9, .ref q_10, .ref q_11, .ref q_12, .ref q_13, .ref q_14, .ref q_15, .ref q_16, .ref q_17, .ref q_18])), (q_4, .inl (cA_19, 301, .inl g0_1)), (q_15, .inl (cA_20, 301, .inl g1_2))] := hD
  generalize (upd f_120 (59 : Int32).toNatClampNeg (-1)) = f_122 at hP hD
  refine lv_iinc (v := 60) (lv' := [(4, .int 60), (0, .ref q_60), (1, .ref q_1), (2, .int 0), (3, .ref q_3)]) hx hb dX7_begin_80 hl (k := 0) rfl (by decide) (by decide) rfl (fun ls hl => ?_)
  refine lv_goto (tgt := 57) hx hb dX7_begin_83 (by decide) ?_
  refine lv_iload hx hb dX7_begin_57 (lv_at hl 0 rfl) ?_
  refine lv_bipush (v := 60) hx hb dX7_begin_59 (by decide) ?_
  refine lv_icmp_ge (tgt := 86) hx hb dX7_begin_61 (by decide) (fun _ => ?_) (fun h9 => absurd h9 (by decide))
  have hP := hP.sub (ws' := [(q_60, .inr (7, [.int 0, .ref q_1, .int 0, .int 0, .int 1, .int 0, .int 0, .int 0, .ref q_3, .int 0, .int 0, .int 0, .int 0, .long 0, .int 0, .int (-1), .ref q_62, .ref q_63]))]) [0] rfl
  have hD := hD.sub (ws' := [(q_60, .inr (7, [.int 0, .ref q_1, .int 0, .int 0, .int 1, .int 0, .int 0, .int 0, .ref q_3, .int 0, .int 0, .int 0, .int 0, .long 0, .int 0, .int (-1), .ref q_62, .ref q_63]))]) [0] (by decide) rfl
  have hK := hK.sub (tys' := []) [] rfl
  refine W.widen (k := 0) (n := 0) (Nat.le_of_ble_eq_true rfl) (Nat.le_of_ble_eq_true rfl) ?_
  exact W.vret hx hb hr (fun t ht hW => ⟨⟨(), rfl, trivial, by rw [ht]; exact hP, va_K.moved hW.alike hK, hD⟩, hS.F ht⟩) hS.2.2 dX7_begin_86
theorem dX7_skipBlanks_0 : decode cX7_skipBlanks 0 = .ok (.iconst 0, 1) := by decide +kernel
theorem dX7_skipBlanks_1 : decode cX7_skipBlanks 1 = .ok (.istore_n 1, 1) := by decide +kernel
theorem dX7_skipBlanks_2 : decode cX7_skipBlanks 2 = .ok (.aload_n 0, 1) := by decide +kernel
theorem dX7_skipBlanks_3 : decode cX7_skipBlanks 3 = .ok (.getfield 22, 3) := by decide +kernel
theorem dX7_skipBlanks_6 : decode cX7_skipBlanks 6 = .ok (.aload_n 0, 1) := by decide +kernel
theorem dX7_skipBlanks_7 : decode cX7_skipBlanks 7 = .ok (.getfield 19, 3) := by decide +kernel
theorem dX7_skipBlanks_10 : decode cX7_skipBlanks 10 = .ok (.if_icmp .ge 70, 3) := by decide +kernel
theorem dX7_skipBlanks_80 : decode cX7_skipBlanks 80 = .ok (.return_, 1) := by decide +kernel
def o_X7_skipBlanks : List Cond := [.fieldLink RX7 22 "SsaForge$Reader" "at" "I", .fieldLink RX7 19 "SsaForge$Reader" "length" "I"]
def v_X7_skipBlanks : List Cond := .code yX7_skipBlanks cX7_skipBlanks 3 none :: (o_X7_skipBlanks ++ (wsX70 ++ []))
theorem mow_X7_skipBlanks : ∀ w ∈ o_X7_skipBlanks, w ∈ v_X7_skipBlanks := fun _ h => List.mem_cons_of_mem _ (List.mem_append_left _ h)
theorem mem_X7_skipBlanks_0 : ∀ w ∈ wsX70, w ∈ v_X7_skipBlanks := fun _ h => List.mem_cons_of_mem _ (List.mem_append_right _ (List.mem_append_left _ h))
set_option maxRecDepth 20000 in
theorem gw_X7_skipBlanks : v_X7_skipBlanks.all goodWord = true := by decide +kernel
set_option maxHeartbeats 4000000 in
set_option maxRecDepth 100000 in
theorem c_X7_skipBlanks (l : Launch) (dC : Nat → ClassId) (dI : Nat → Nat → Nat) (q_60 : Nat) (q_1 : Nat) (q_3 : Nat) (q_62 : Nat) (q_63 : Nat) (sz : Nat) : Met l yX7_skipBlanks v_X7_skipBlanks ({ frames := 0, cells := 0, slots := 0, locals := 0 }) (va_Pc [.ref q_60] (fun U => U.heap.size = sz ∧ va_P (dC, dI) vwP [(q_60, .inr (7, [.int 0, .ref q_1, .int 0, .int 0, .int 1, .int 0, .int 0, .int 0, .ref q_3, .int 0, .int 0, .int 0, .int 0, .long 0, .int 0, .int (-1), .ref q_62, .ref q_63]))] U.heap ∧ va_K (dC, dI) vwP [] U ∧ va_D (fun _ => True) [(q_60, .inr (7, [.int 0, .ref q_1, .int 0, .int 0, .int 1, .int 0, .int 0, .int 0, .ref q_3, .int 0, .int 0, .int 0, .int 0, .long 0, .int 0, .int (-1), .ref q_62, .ref q_63]))])) (va_Qv (fun _ : Unit => True) (fun (_ : Unit) (t : State) => va_P (dC, dI) vwP [(q_60, .inr (7, [.int 0, .ref q_1, .int 0, .int 0, .int 1, .int 0, .int 0, .int 0, .ref q_3, .int 0, .int 0, .int 0, .int 0, .long 0, .int 0, .int (-1), .ref q_62, .ref q_63]))] t.heap ∧ va_K (dC, dI) vwP [] t ∧ va_D (va_A [(q_60, .inr (7, [.int 0, .ref q_1, .int 0, .int 0, .int 1, .int 0, .int 0, .int 0, .ref q_3, .int 0, .int 0, .int 0, .int 0, .long 0, .int 0, .int (-1), .ref q_62, .ref q_63]))] sz) [(q_60, .inr (7, [.int 0, .ref q_1, .int 0, .int 0, .int 1, .int 0, .int 0, .int 0, .ref q_3, .int 0, .int 0, .int 0, .int 0, .long 0, .int 0, .int (-1), .ref q_62, .ref q_63]))]) (va_A [(q_60, .inr (7, [.int 0, .ref q_1, .int 0, .int 0, .int 1, .int 0, .int 0, .int 0, .ref q_3, .int 0, .int 0, .int 0, .int 0, .long 0, .int 0, .int (-1), .ref q_62, .ref q_63]))] sz)) 0 0 (va_A [(q_60, .inr (7, [.int 0, .ref q_1, .int 0, .int 0, .int 1, .int 0, .int 0, .int 0, .ref q_3, .int 0, .int 0, .int 0, .int 0, .long 0, .int 0, .int (-1), .ref q_62, .ref q_63]))] sz) := by
  refine Met.ofW (cc := cX7_skipBlanks) (maxL := 3) (ret := none) (by decide) rfl ?_
  intro p e s m args below meth c s₁ B hml hv
  obtain ⟨rfl, hsz, hP, hK, hD0⟩ := hv
  have hx := B.exec
  have hb := B.bytes
  have hr := B.returns
  have hts := atoms_spec (ws := v_X7_skipBlanks) B.pre
  have hown : s.vm.findClass RX7 = some m.cls := findClass_of_methodNamed B.named
  have hlocks := B.notSynchronized
  have ow : ∀ {k : Nat} {w : Cond}, o_X7_skipBlanks[k]? = some w → w.before ([.ref q_60] : List Value).toArray s = true := fun h => hts _ (mow_X7_skipBlanks _ (List.mem_of_getElem? h))
  subst hsz
  have hD := hD0.self (sz := s.heap.size)
  generalize hAe : va_A [(q_60, .inr (7, [.int 0, .ref q_1, .int 0, .int 0, .int 1, .int 0, .int 0, .int 0, .ref q_3, .int 0, .int 0, .int 0, .int 0, .long 0, .int 0, .int (-1), .ref q_62, .ref q_63]))] s.heap.size = A at hD ⊢
  have hA : ∀ q : Nat, s.heap.size ≤ q → A q := fun q h => by rw [← hAe]; exact Or.inr h
  have hS : va_S A s.heap s.heap [] := va_S.rf
  have hP : va_P (dC, dI) vwP [(q_60, .inr (7, [.int 0, .ref q_1, .int 0, .int 0, .int 1, .int 0, .int 0, .int 0, .ref q_3, .int 0, .int 0, .int 0, .int 0, .long 0, .int 0, .int (-1), .ref q_62, .ref q_63]))] s.heap := hP
  have hl := lv_entry ([.ref q_60]) (n := 3) (Nat.le_of_ble_eq_true rfl)
  rw [lg_entry_eq]
  generalize (lg_sl ([.ref q_60]) ++ List.replicate (3 - (lg_sl ([.ref q_60])).length) Slot.unset).toArray = ls at hl ⊢
  have hl : lv_has ls 3 [(0, .ref q_60)] := hl
  obtain ⟨H, hH⟩ : ∃ H, H = s.heap := ⟨_, rfl⟩
  rw [← hH] at hP
  have hS : va_S A s.heap H [] := by rw [hH]; exact hS
  rw [← hH]
  refine lv_iconst (v := 0) hx hb dX7_skipBlanks_0 (by decide) ?_
  refine lv_istore_n (lv' := [(1, .int 0), (0, .ref q_60)]) hx hb dX7_skipBlanks_1 rfl hl (by decide) rfl (fun ls hl => ?_)
  refine lv_aload_n hx hb dX7_skipBlanks_2 rfl (lv_at hl 1 rfl) ?_
  refine va_get (D := (dC, dI)) (ci := 7) (v := .int 0) (C := RX7) (T := TX7) (N := 18) hx hb hts mem_X7_skipBlanks_0 hown hK hP 0 rfl rfl 3 (by decide) (ow (k := 0) rfl) (fun _ h9 => h9) rfl dX7_skipBlanks_3 ?_
  refine lv_aload_n hx hb dX7_skipBlanks_6 rfl (lv_at hl 1 rfl) ?_
  refine va_get (D := (dC, dI)) (ci := 7) (v := .int 0) (C := RX7) (T := TX7) (N := 18) hx hb hts mem_X7_skipBlanks_0 hown hK hP 0 rfl rfl 2 (by decide) (ow (k := 1) rfl) (fun _ h9 => h9) rfl dX7_skipBlanks_7 ?_
  refine lv_icmp_ge (tgt := 80) hx hb dX7_skipBlanks_10 (by decide) (fun _ => ?_) (fun h9 => absurd h9 (by decide))
  refine W.widen (k := 0) (n := 0) (Nat.le_of_ble_eq_true rfl) (Nat.le_of_ble_eq_true rfl) ?_
  exact W.vret hx hb hr (fun t ht hW => ⟨⟨(), rfl, trivial, by rw [ht]; exact hP, va_K.moved hW.alike hK, hD⟩, hS.F ht⟩) hS.2.2 dX7_skipBlanks_80
theorem dX7_scan_0 : decode cX7_scan 0 = .ok (.aload_n 0, 1) := by decide +kernel
theorem dX7_scan_1 : decode cX7_scan 1 = .ok (.getfield 25, 3) := by decide +kernel
theorem dX7_scan_4 : decode cX7_scan 4 = .ok (.iconst 2, 1) := by decide +kernel
theorem dX7_scan_5 : decode cX7_scan 5 = .ok (.if_icmp .eq 11, 3) := by decide +kernel
theorem dX7_scan_8 : decode cX7_scan 8 = .ok (.aload_n 0, 1) := by decide +kernel
theorem dX7_scan_9 : decode cX7_scan 9 = .ok (.getfield 25, 3) := by decide +kernel
theorem dX7_scan_12 : decode cX7_scan 12 = .ok (.iconst 3, 1) := by decide +kernel
theorem dX7_scan_13 : decode cX7_scan 13 = .ok (.if_icmp .ne 7, 3) := by decide +kernel
theorem dX7_scan_20 : decode cX7_scan 20 = .ok (.iconst 0, 1) := by decide +kernel
theorem dX7_scan_21 : decode cX7_scan 21 = .ok (.istore_n 1, 1) := by decide +kernel
theorem dX7_scan_22 : decode cX7_scan 22 = .ok (.aload_n 0, 1) := by decide +kernel
theorem dX7_scan_23 : decode cX7_scan 23 = .ok (.invokevirtual 97, 3) := by decide +kernel
theorem dX7_scan_26 : decode cX7_scan 26 = .ok (.aload_n 0, 1) := by decide +kernel
theorem dX7_scan_27 : decode cX7_scan 27 = .ok (.aload_n 0, 1) := by decide +kernel
theorem dX7_scan_28 : decode cX7_scan 28 = .ok (.getfield 22, 3) := by decide +kernel
theorem dX7_scan_31 : decode cX7_scan 31 = .ok (.putfield 28, 3) := by decide +kernel
theorem dX7_scan_34 : decode cX7_scan 34 = .ok (.aload_n 0, 1) := by decide +kernel
theorem dX7_scan_35 : decode cX7_scan 35 = .ok (.getfield 22, 3) := by decide +kernel
theorem dX7_scan_38 : decode cX7_scan 38 = .ok (.aload_n 0, 1) := by decide +kernel
theorem dX7_scan_39 : decode cX7_scan 39 = .ok (.getfield 19, 3) := by decide +kernel
theorem dX7_scan_42 : decode cX7_scan 42 = .ok (.if_icmp .lt 11, 3) := by decide +kernel
theorem dX7_scan_45 : decode cX7_scan 45 = .ok (.aload_n 0, 1) := by decide +kernel
theorem dX7_scan_46 : decode cX7_scan 46 = .ok (.iconst 1, 1) := by decide +kernel
theorem dX7_scan_47 : decode cX7_scan 47 = .ok (.putfield 25, 3) := by decide +kernel
theorem dX7_scan_50 : decode cX7_scan 50 = .ok (.goto 73, 3) := by decide +kernel
theorem dX7_scan_123 : decode cX7_scan 123 = .ok (.return_, 1) := by decide +kernel
def o_X7_scan : List Cond := [.fieldLink RX7 25 "SsaForge$Reader" "kind" "I", .methodLink RX7 97 yX7_skipBlanks, .instanceMethod yX7_skipBlanks, .selects RX7 yX7_skipBlanks yX7_skipBlanks, .initialized RX7, .fieldLink RX7 22 "SsaForge$Reader" "at" "I", .fieldLink RX7 28 "SsaForge$Reader" "place" "I", .fieldLink RX7 19 "SsaForge$Reader" "length" "I"]
def v_X7_scan : List Cond := .code yX7_scan cX7_scan 2 none :: (o_X7_scan ++ (wsX70 ++ (v_X7_skipBlanks ++ [])))
theorem mow_X7_scan : ∀ w ∈ o_X7_scan, w ∈ v_X7_scan := fun _ h => List.mem_cons_of_mem _ (List.mem_append_left _ h)
theorem mem_X7_scan_0 : ∀ w ∈ wsX70, w ∈ v_X7_scan := fun _ h => List.mem_cons_of_mem _ (List.mem_append_right _ (List.mem_append_left _ h))
theorem mem_X7_scan_1 : ∀ w ∈ v_X7_skipBlanks, w ∈ v_X7_scan := fun _ h => List.mem_cons_of_mem _ (List.mem_append_right _ (List.mem_append_right _ (List.mem_append_left _ h)))
set_option maxRecDepth 20000 in
theorem gw_X7_scan : v_X7_scan.all goodWord = true := by decide +kernel
set_option maxRecDepth 20000 in
theorem g_X7_scan_X7_skipBlanks : GoodIn v_X7_scan (wsV RX7 97 RX7 yX7_skipBlanks v_X7_skipBlanks) := goodIn_app (goodIn_sub (fun w h => mow_X7_scan w (by revert w h; decide +kernel)) (by decide +kernel)) (goodIn_sub mem_X7_scan_1 gw_X7_skipBlanks)
set_option maxHeartbeats 4000000 in
set_option maxRecDepth 100000 in
theorem c_X7_scan (l : Launch) (dC : Nat → ClassId) (dI : Nat → Nat → Nat) (q_60 : Nat) (q_1 : Nat) (q_3 : Nat) (q_62 : Nat) (q_63 : Nat) (sz : Nat) : Met l yX7_scan v_X7_scan ({ frames := 1, cells := 0, slots := 0, locals := 22 }) (va_Pc [.ref q_60] (fun U => U.heap.size = sz ∧ va_P (dC, dI) vwP [(q_60, .inr (7, [.int 0, .ref q_1, .int 0, .int 0, .int 1, .int 0, .int 0, .int 0, .ref q_3, .int 0, .int 0, .int 0, .int 0, .long 0, .int 0, .int (-1), .ref q_62, .ref q_63]))] U.heap ∧ va_K (dC, dI) vwP [] U ∧ va_D (fun _ => True) [(q_60, .inr (7, [.int 0, .ref q_1, .int 0, .int 0, .int 1, .int 0, .int 0, .int 0, .ref q_3, .int 0, .int 0, .int 0, .int 0, .long 0, .int 0, .int (-1), .ref q_62, .ref q_63]))])) (va_Qv (fun _ : Unit => True) (fun (_ : Unit) (t : State) => va_P (dC, dI) vwP [(q_60, .inr (7, [.int 0, .ref q_1, .int 0, .int 0, .int 1, .int 0, .int 0, .int 0, .ref q_3, .int 0, .int 0, .int 0, .int 0, .long 0, .int 0, .int (-1), .ref q_62, .ref q_63]))] t.heap ∧ va_K (dC, dI) vwP [] t ∧ va_D (va_A [(q_60, .inr (7, [.int 0, .ref q_1, .int 0, .int 0, .int 1, .int 0, .int 0, .int 0, .ref q_3, .int 0, .int 0, .int 0, .int 0, .long 0, .int 0, .int (-1), .ref q_62, .ref q_63]))] sz) [(q_60, .inr (7, [.int 0, .ref q_1, .int 0, .int 0, .int 1, .int 0, .int 0, .int 0, .ref q_3, .int 0, .int 0, .int 0, .int 0, .long 0, .int 0, .int (-1), .ref q_62, .ref q_63]))]) (va_A [(q_60, .inr (7, [.int 0, .ref q_1, .int 0, .int 0, .int 1, .int 0, .int 0, .int 0, .ref q_3, .int 0, .int 0, .int 0, .int 0, .long 0, .int 0, .int (-1), .ref q_62, .ref q_63]))] sz)) 0 0 (va_A [(q_60, .inr (7, [.int 0, .ref q_1, .int 0, .int 0, .int 1, .int 0, .int 0, .int 0, .ref q_3, .int 0, .int 0, .int 0, .int 0, .long 0, .int 0, .int (-1), .ref q_62, .ref q_63]))] sz) := by
  refine Met.ofW (cc := cX7_scan) (maxL := 2) (ret := none) (by decide) rfl ?_
  intro p e s m args below meth c s₁ B hml hv
  obtain ⟨rfl, hsz, hP, hK, hD0⟩ := hv
  have hx := B.exec
  have hb := B.bytes
  have hr := B.returns
  have hts := atoms_spec (ws := v_X7_scan) B.pre
  have hown : s.vm.findClass RX7 = some m.cls := findClass_of_methodNamed B.named
  have hlocks := B.notSynchronized
  have ow : ∀ {k : Nat} {w : Cond}, o_X7_scan[k]? = some w → w.before ([.ref q_60] : List Value).toArray s = true := fun h => hts _ (mow_X7_scan _ (List.mem_of_getElem? h))
  subst hsz
  have hD := hD0.self (sz := s.heap.size)
  generalize hAe : va_A [(q_60, .inr (7, [.int 0, .ref q_1, .int 0, .int 0, .int 1, .int 0, .int 0, .int 0, .ref q_3, .int 0, .int 0, .int 0, .int 0, .long 0, .int 0, .int (-1), .ref q_62, .ref q_63]))] s.heap.size = A at hD ⊢
  have hA : ∀ q : Nat, s.heap.size ≤ q → A q := fun q h => by rw [← hAe]; exact Or.inr h
  have hS : va_S A s.heap s.heap [] := va_S.rf
  have hP : va_P (dC, dI) vwP [(q_60, .inr (7, [.int 0, .ref q_1, .int 0, .int 0, .int 1, .int 0, .int 0, .int 0, .ref q_3, .int 0, .int 0, .int 0, .int 0, .long 0, .int 0, .int (-1), .ref q_62, .ref q_63]))] s.heap := hP
  have hl := lv_entry ([.ref q_60]) (n := 2) (Nat.le_of_ble_eq_true rfl)
  rw [lg_entry_eq]
  generalize (lg_sl ([.ref q_60]) ++ List.replicate (2 - (lg_sl ([.ref q_60])).length) Slot.unset).toArray = ls at hl ⊢
  have hl : lv_has ls 2 [(0, .ref q_60)] := hl
  obtain ⟨H, hH⟩ : ∃ H, H = s.heap := ⟨_, rfl⟩
  rw [← hH] at hP
  have hS : va_S A s.heap H [] := by rw [hH]; exact hS
  rw [← hH]
  refine lv_aload_n hx hb dX7_scan_0 rfl (lv_at hl 0 rfl) ?_
  refine va_get (D := (dC, dI)) (ci := 7) (v := .int 1) (C := RX7) (T := TX7) (N := 18) hx hb hts mem_X7_scan_0 hown hK hP 0 rfl rfl 4 (by decide) (ow (k := 0) rfl) (fun _ h9 => h9) rfl dX7_scan_1 ?_
  refine lv_iconst (v := 2) hx hb dX7_scan_4 (by decide) ?_
  refine lv_icmp_eq (tgt := 16) hx hb dX7_scan_5 (by decide) (fun h9 => absurd h9 (by decide)) (fun _ => ?_)
  refine lv_aload_n hx hb dX7_scan_8 rfl (lv_at hl 0 rfl) ?_
  refine va_get (D := (dC, dI)) (ci := 7) (v := .int 1) (C := RX7) (T := TX7) (N := 18) hx hb hts mem_X7_scan_0 hown hK hP 0 rfl rfl 4 (by decide) (ow (k := 0) rfl) (fun _ h9 => h9) rfl dX7_scan_9 ?_
  refine lv_iconst (v := 3) hx hb dX7_scan_12 (by decide) ?_
  refine lv_icmp_ne (tgt := 20) hx hb dX7_scan_13 (by decide) (fun _ => ?_) (fun h9 => absurd h9 (by decide))
  refine lv_iconst (v := 0) hx hb dX7_scan_20 (by decide) ?_
  refine lv_istore_n (lv' := [(1, .int 0), (0, .ref q_60)]) hx hb dX7_scan_21 rfl hl (by decide) rfl (fun ls hl => ?_)
  refine lv_aload_n hx hb dX7_scan_22 rfl (lv_at hl 1 rfl) ?_
  have hPc := hP.sub (ws' := [(q_60, .inr (7, [.int 0, .ref q_1, .int 0, .int 0, .int 1, .int 0, .int 0, .int 0, .ref q_3, .int 0, .int 0, .int 0, .int 0, .long 0, .int 0, .int (-1), .ref q_62, .ref q_63]))]) [0] rfl
  have hDc := hD.sub (ws' := [(q_60, .inr (7, [.int 0, .ref q_1, .int 0, .int 0, .int 1, .int 0, .int 0, .int 0, .ref q_3, .int 0, .int 0, .int 0, .int 0, .long 0, .int 0, .int (-1), .ref q_62, .ref q_63]))]) [0] (by decide) rfl
  have hKc := hK.sub (tys' := []) [] rfl
  have hFc := va_free (wc := [(q_60, .inr (7, [.int 0, .ref q_1, .int 0, .int 0, .int 1, .int 0, .int 0, .int 0, .ref q_3, .int 0, .int 0, .int 0, .int 0, .long 0, .int 0, .int (-1), .ref q_62, .ref q_63]))]) hD hS hA [0] rfl
  refine va_callv (va_runV (As := []) (rest := []) ⟨hx, hb, hml, hown, hts⟩ (c_X7_skipBlanks l dC dI q_60 q_1 q_3 q_62 q_63 H.size) (cwV 0 hts g_X7_scan_X7_skipBlanks rfl rfl rfl (by decide +kernel) ⟨(Nat.le_of_ble_eq_true rfl), (Nat.le_of_ble_eq_true rfl)⟩) ⟨fun a U g mk q => by obtain ⟨q0, q1, qP, qK, qD⟩ := q; exact ⟨q0, q1, qP, va_K.moved (u := U) (U := U.calling g mk a) (Vm.Alike.refl U.vm) qK, qD⟩, va_recv hKc hPc (ci := 7) (q0 := 0) rfl rfl, fun U hU hW => ⟨rfl, by rw [hU], by rw [hU]; exact hPc, va_K.moved hW.alike hKc, hDc.weaken (fun _ _ _ _ => trivial)⟩⟩ rfl rfl hl.1 rfl (lv_room (Nat.le_of_ble_eq_true rfl)) dX7_scan_23 ⟨(Nat.le_of_ble_eq_true rfl), (Nat.le_of_ble_eq_true rfl)⟩) hS (fun q _ h => hFc q h) hFc (fun  u t H1 locs ht hvm hw hB hz1 hk1 hS => ?_)
  obtain ⟨hP1, hK1, hD1⟩ := hB
  rw [ht] at hP1
  have hK1 := va_K.moved hvm.symm hK1
  obtain ⟨hP, hD⟩ := va_join (wr := []) (w1 := [(q_60, .inr (7, [.int 0, .ref q_1, .int 0, .int 0, .int 1, .int 0, .int 0, .int 0, .ref q_3, .int 0, .int 0, .int 0, .int 0, .long 0, .int 0, .int (-1), .ref q_62, .ref q_63]))]) hP hD [0] [] rfl rfl (by decide) (by decide) hk1 hFc hP1 hD1
  have hK := (hK.sub (tys' := []) [] rfl).app hK1
  generalize H1 = H at hP hS ⊢
  have hP : va_P (dC, dI) vwP [(q_60, .inr (7, [.int 0, .ref q_1, .int 0, .int 0, .int 1, .int 0, .int 0, .int 0, .ref q_3, .int 0, .int 0, .int 0, .int 0, .long 0, .int 0, .int (-1), .ref q_62, .ref q_63]))] H := hP
  have hD : va_D A [(q_60, .inr (7, [.int 0, .ref q_1, .int 0, .int 0, .int 1, .int 0, .int 0, .int 0, .ref q_3, .int 0, .int 0, .int 0, .int 0, .long 0, .int 0, .int (-1), .ref q_62, .ref q_63]))] := hD
  have hK : va_K (dC, dI) vwP [] s := hK
  refine W.widen (k := 0) (n := 0) (Nat.le_of_ble_eq_true rfl) (Nat.le_of_ble_eq_true rfl) ?_
  refine lv_aload_n hx hb dX7_scan_26 rfl (lv_at hl 1 rfl) ?_
  refine lv_aload_n hx hb dX7_scan_27 rfl (lv_at hl 1 rfl) ?_
  refine va_get (D := (dC, dI)) (ci := 7) (v := .int 0) (C := RX7) (T := TX7) (N := 18) hx hb hts mem_X7_scan_0 hown hK hP 0 rfl rfl 3 (by decide) (ow (k := 5) rfl) (fun _ h9 => h9) rfl dX7_scan_28 ?_
  refine va_put (D := (dC, dI)) (ci := 7) (v := .int 0) (ty := .int) (C := RX7) (T := TX7) (N := 18) hx hb hts mem_X7_scan_0 tyX7 tyX7_ok nmX7 hown hK hP hD hS 0 rfl rfl 5 (by decide) (ow (k := 6) rfl) (fun _ h9 => h9) rfl (by decide +kernel) rfl rfl (Nat.le_of_ble_eq_true rfl) dX7_scan_31 (fun H locs hP hD hS => ?_)
  have hP : va_P (dC, dI) vwP [(q_60, .inr (7, [.int 0, .ref q_1, .int 0, .int 0, .int 1, .int 0, .int 0, .int 0, .ref q_3, .int 0, .int 0, .int 0, .int 0, .long 0, .int 0, .int (-1), .ref q_62, .ref q_63]))] H := hP
  have hD : va_D A [(q_60, .inr (7, [.int 0, .ref q_1, .int 0, .int 0, .int 1, .int 0, .int 0, .int 0, .ref q_3, .int 0, .int 0, .int 0, .int 0, .long 0, .int 0, .int (-1), .ref q_62, .ref q_63]))] := hD
  refine lv_aload_n hx hb dX7_scan_34 rfl (lv_at hl 1 rfl) ?_
  refine va_get (D := (dC, dI)) (ci := 7) (v := .int 0) (C := RX7) (T := TX7) (N := 18) hx hb hts mem_X7_scan_0 hown hK hP 0 rfl rfl 3 (by decide) (ow (k := 5) rfl) (fun _ h9 => h9) rfl dX7_scan_35 ?_
  refine lv_aload_n hx hb dX7_scan_38 rfl (lv_at hl 1 rfl) ?_
  refine va_get (D := (dC, dI)) (ci := 7) (v := .int 0) (C := RX7) (T := TX7) (N := 18) hx hb hts mem_X7_scan_0 hown hK hP 0 rfl rfl 2 (by decide) (ow (k := 7) rfl) (fun _ h9 => h9) rfl dX7_scan_39 ?_
  refine lv_icmp_lt (tgt := 53) hx hb dX7_scan_42 (by decide) (fun h9 => absurd h9 (by decide)) (fun _ => ?_)
  refine lv_aload_n hx hb dX7_scan_45 rfl (lv_at hl 1 rfl) ?_
  refine lv_iconst (v := 1) hx hb dX7_scan_46 (by decide) ?_
  refine va_put (D := (dC, dI)) (ci := 7) (v := .int 1) (ty := .int) (C := RX7) (T := TX7) (N := 18) hx hb hts mem_X7_scan_0 tyX7 tyX7_ok nmX7 hown hK hP hD hS 0 rfl rfl 4 (by decide) (ow (k := 0) rfl) (fun _ h9 => h9) rfl (by decide +kernel) rfl rfl (Nat.le_of_ble_eq_true rfl) dX7_scan_47 (fun H locs hP hD hS => ?_)
  have hP : va_P (dC, dI) vwP [(q_60, .inr (7, [.int 0, .ref q_1, .int 0, .int 0, .int 1, .int 0, .int 0, .int 0, .ref q_3, .int 0, .int 0, .int 0, .int 0, .long 0, .int 0, .int (-1), .ref q_62, .ref q_63]))] H := hP
  have hD : va_D A [(q_60, .inr (7, [.int 0, .ref q_1, .int 0, .int 0, .int 1, .int 0, .int 0, .int 0, .ref q_3, .int 0, .int 0, .int 0, .int 0, .long 0, .int 0, .int (-1), .ref q_62, .ref q_63]))] := hD
  refine lv_goto (tgt := 123) hx hb dX7_scan_50 (by decide) ?_
  refine W.widen (k := 0) (n := 0) (Nat.le_of_ble_eq_true rfl) (Nat.le_of_ble_eq_true rfl) ?_
  exact W.vret hx hb hr (fun t ht hW => ⟨⟨(), rfl, trivial, by rw [ht]; exact hP, va_K.moved hW.alike hK, hD⟩, hS.F ht⟩) hS.2.2 dX7_scan_123
theorem dX7_readAll_0 : decode cX7_readAll 0 = .ok (.aload_n 0, 1) := by decide +kernel
theorem dX7_readAll_1 : decode cX7_readAll 1 = .ok (.aload_n 1, 1) := by decide +kernel
theorem dX7_readAll_2 : decode cX7_readAll 2 = .ok (.iload_n 2, 1) := by decide +kernel
theorem dX7_readAll_3 : decode cX7_readAll 3 = .ok (.aload_n 3, 1) := by decide +kernel
theorem dX7_readAll_4 : decode cX7_readAll 4 = .ok (.invokevirtual 71, 3) := by decide +kernel
theorem dX7_readAll_7 : decode cX7_readAll 7 = .ok (.iconst 0, 1) := by decide +kernel
theorem dX7_readAll_8 : decode cX7_readAll 8 = .ok (.istore 4, 2) := by decide +kernel
theorem dX7_readAll_10 : decode cX7_readAll 10 = .ok (.iload 4, 2) := by decide +kernel
theorem dX7_readAll_12 : decode cX7_readAll 12 = .ok (.iload_n 2, 1) := by decide +kernel
theorem dX7_readAll_13 : decode cX7_readAll 13 = .ok (.if_icmp .gt 41, 3) := by decide +kernel
theorem dX7_readAll_16 : decode cX7_readAll 16 = .ok (.aload_n 0, 1) := by decide +kernel
theorem dX7_readAll_17 : decode cX7_readAll 17 = .ok (.invokevirtual 75, 3) := by decide +kernel
theorem dX7_readAll_20 : decode cX7_readAll 20 = .ok (.aload_n 0, 1) := by decide +kernel
theorem dX7_readAll_21 : decode cX7_readAll 21 = .ok (.getfield 25, 3) := by decide +kernel
theorem dX7_readAll_24 : decode cX7_readAll 24 = .ok (.iconst 1, 1) := by decide +kernel
theorem dX7_readAll_25 : decode cX7_readAll 25 = .ok (.if_icmp .ne 6, 3) := by decide +kernel
theorem dX7_readAll_28 : decode cX7_readAll 28 = .ok (.goto 26, 3) := by decide +kernel
theorem dX7_readAll_54 : decode cX7_readAll 54 = .ok (.aload_n 0, 1) := by decide +kernel
theorem dX7_readAll_55 : decode cX7_readAll 55 = .ok (.getfield 34, 3) := by decide +kernel
theorem dX7_readAll_58 : decode cX7_readAll 58 = .ok (.ifCond .ne 10, 3) := by decide +kernel
theorem dX7_readAll_61 : decode cX7_readAll 61 = .ok (.aload_n 0, 1) := by decide +kernel
theorem dX7_readAll_62 : decode cX7_readAll 62 = .ok (.getfield 44, 3) := by decide +kernel
theorem dX7_readAll_65 : decode cX7_readAll 65 = .ok (.ifCond .ne 10, 3) := by decide +kernel
theorem dX7_readAll_68 : decode cX7_readAll 68 = .ok (.aload_n 0, 1) := by decide +kernel
theorem dX7_readAll_69 : decode cX7_readAll 69 = .ok (.iconst 1, 1) := by decide +kernel
theorem dX7_readAll_70 : decode cX7_readAll 70 = .ok (.putfield 9, 3) := by decide +kernel
theorem dX7_readAll_73 : decode cX7_readAll 73 = .ok (.iload_n 2, 1) := by decide +kernel
theorem dX7_readAll_74 : decode cX7_readAll 74 = .ok (.ireturn, 1) := by decide +kernel
def o_X7_readAll : List Cond := [.methodLink RX7 71 yX7_begin, .instanceMethod yX7_begin, .selects RX7 yX7_begin yX7_begin, .initialized RX7, .methodLink RX7 75 yX7_scan, .instanceMethod yX7_scan, .selects RX7 yX7_scan yX7_scan, .fieldLink RX7 25 "SsaForge$Reader" "kind" "I", .fieldLink RX7 34 "SsaForge$Reader" "state" "I", .fieldLink RX7 44 "SsaForge$Reader" "blockCount" "I", .fieldLink RX7 9 "SsaForge$Reader" "reason" "I"]
def v_X7_readAll : List Cond := .code yX7_readAll cX7_readAll 5 (some .int) :: (o_X7_readAll ++ (v_X7_begin ++ (v_X7_scan ++ (wsX70 ++ []))))
theorem mow_X7_readAll : ∀ w ∈ o_X7_readAll, w ∈ v_X7_readAll := fun _ h => List.mem_cons_of_mem _ (List.mem_append_left _ h)
theorem mem_X7_readAll_0 : ∀ w ∈ v_X7_begin, w ∈ v_X7_readAll := fun _ h => List.mem_cons_of_mem _ (List.mem_append_right _ (List.mem_append_left _ h))
theorem mem_X7_readAll_1 : ∀ w ∈ v_X7_scan, w ∈ v_X7_readAll := fun _ h => List.mem_cons_of_mem _ (List.mem_append_right _ (List.mem_append_right _ (List.mem_append_left _ h)))
theorem mem_X7_readAll_2 : ∀ w ∈ wsX70, w ∈ v_X7_readAll := fun _ h => List.mem_cons_of_mem _ (List.mem_append_right _ (List.mem_append_right _ (List.mem_append_right _ (List.mem_append_left _ h))))
set_option maxRecDepth 20000 in
theorem gw_X7_readAll : v_X7_readAll.all goodWord = true := by decide +kernel
set_option maxRecDepth 20000 in
theorem g_X7_readAll_X7_begin : GoodIn v_X7_readAll (wsV RX7 71 RX7 yX7_begin v_X7_begin) := goodIn_app (goodIn_sub (fun w h => mow_X7_readAll w (by revert w h; decide +kernel)) (by decide +kernel)) (goodIn_sub mem_X7_readAll_0 gw_X7_begin)
set_option maxRecDepth 20000 in
theorem g_X7_readAll_X7_scan : GoodIn v_X7_readAll (wsV RX7 75 RX7 yX7_scan v_X7_scan) := goodIn_app (goodIn_sub (fun w h => mow_X7_readAll w (by revert w h; decide +kernel)) (by decide +kernel)) (goodIn_sub mem_X7_readAll_1 gw_X7_scan)
set_option maxHeartbeats 4000000 in
set_option maxRecDepth 100000 in
theorem c_X7_readAll (l : Launch) (dC : Nat → ClassId) (dI : Nat → Nat → Nat) (q_60 : Nat) (q_61 : Nat) (q_62 : Nat) (q_63 : Nat) (cA_64 : ClassId) (cA_65 : ClassId) (q_3 : Nat) (q_4 : Nat) (q_5 : Nat) (q_6 : Nat) (q_7 : Nat) (q_8 : Nat) (q_9 : Nat) (q_10 : Nat) (q_11 : Nat) (q_12 : Nat) (q_13 : Nat) (q_14 : Nat) (q_15 : Nat) (q_16 : Nat) (q_17 : Nat) (q_18 : Nat) (cA_19 : ClassId) (cA_20 : ClassId) (q_1 : Nat) (sz : Nat) : Met l yX7_readAll v_X7_readAll ({ frames := 2, cells := 0, slots := 0, locals := 44 }) (va_Pc [.ref q_60, .ref q_1, .int 0, .ref q_3] (fun U => U.heap.size = sz ∧ va_P (dC, dI) vwP [(q_60, .inr (7, [.int 0, .ref q_61, .int 0, .int 0, .int 1, .int 0, .int 0, .int 0, .null, .int 0, .int 0, .int 0, .int 0, .long 0, .int 0, .int (-1), .ref q_62, .ref q_63])), (q_62, .inl (cA_64, 60, .inl (fun _ => 0))), (q_63, .inl (cA_65, 60, .inl (fun _ => 0))), (q_3, .inr (0, [.int 0, .int 0, .int 0, .int 0, .ref q_4, .ref q_5, .ref q_6, .ref q_7, .ref q_8, .ref q_9, .ref q_10, .ref q_11, .ref q_12, .ref q_13, .ref q_14, .ref q_15, .ref q_16, .ref q_17, .ref q_18])), (q_4, .inl (cA_19, 301, .inl (fun _ => 0))), (q_15, .inl (cA_20, 301, .inl (fun _ => 0)))] U.heap ∧ va_K (dC, dI) vwP [(cA_19, .int), (cA_20, .int), (cA_64, .boolean), (cA_65, .int)] U ∧ va_D (fun _ => True) [(q_60, .inr (7, [.int 0, .ref q_61, .int 0, .int 0, .int 1, .int 0, .int 0, .int 0, .null, .int 0, .int 0, .int 0, .int 0, .long 0, .int 0, .int (-1), .ref q_62, .ref q_63])), (q_62, .inl (cA_64, 60, .inl (fun _ => 0))), (q_63, .inl (cA_65, 60, .inl (fun _ => 0))), (q_3, .inr (0, [.int 0, .int 0, .int 0, .int 0, .ref q_4, .ref q_5, .ref q_6, .ref q_7, .ref q_8, .ref q_9, .ref q_10, .ref q_11, .ref q_12, .ref q_13, .ref q_14, .ref q_15, .ref q_16, .ref q_17, .ref q_18])), (q_4, .inl (cA_19, 301, .inl (fun _ => 0))), (q_15, .inl (cA_20, 301, .inl (fun _ => 0)))])) (va_Qi (fun (r : Int32) (_ : Unit) => r = 0) (fun (_ : Unit) (t : State) => va_P (dC, dI) vwP [] t.heap ∧ va_K (dC, dI) vwP [] t ∧ va_D (va_A [(q_60, .inr (7, [.int 0, .ref q_61, .int 0, .int 0, .int 1, .int 0, .int 0, .int 0, .null, .int 0, .int 0, .int 0, .int 0, .long 0, .int 0, .int (-1), .ref q_62, .ref q_63])), (q_62, .inl (cA_64, 60, .inl (fun _ => 0))), (q_63, .inl (cA_65, 60, .inl (fun _ => 0))), (q_3, .inr (0, [.int 0, .int 0, .int 0, .int 0, .ref q_4, .ref q_5, .ref q_6, .ref q_7, .ref q_8, .ref q_9, .ref q_10, .ref q_11, .ref q_12, .ref q_13, .ref q_14, .ref q_15, .ref q_16, .ref q_17, .ref q_18])), (q_4, .inl (cA_19, 301, .inl (fun _ => 0))), (q_15, .inl (cA_20, 301, .inl (fun _ => 0)))] sz) []) (va_A [(q_60, .inr (7, [.int 0, .ref q_61, .int 0, .int 0, .int 1, .int 0, .int 0, .int 0, .null, .int 0, .int 0, .int 0, .int 0, .long 0, .int 0, .int (-1), .ref q_62, .ref q_63])), (q_62, .inl (cA_64, 60, .inl (fun _ => 0))), (q_63, .inl (cA_65, 60, .inl (fun _ => 0))), (q_3, .inr (0, [.int 0, .int 0, .int 0, .int 0, .ref q_4, .ref q_5, .ref q_6, .ref q_7, .ref q_8, .ref q_9, .ref q_10, .ref q_11, .ref q_12, .ref q_13, .ref q_14, .ref q_15, .ref q_16, .ref q_17, .ref q_18])), (q_4, .inl (cA_19, 301, .inl (fun _ => 0))), (q_15, .inl (cA_20, 301, .inl (fun _ => 0)))] sz)) 0 0 (va_A [(q_60, .inr (7, [.int 0, .ref q_61, .int 0, .int 0, .int 1, .int 0, .int 0, .int 0, .null, .int 0, .int 0, .int 0, .int 0, .long 0, .int 0, .int (-1), .ref q_62, .ref q_63])), (q_62, .inl (cA_64, 60, .inl (fun _ => 0))), (q_63, .inl (cA_65, 60, .inl (fun _ => 0))), (q_3, .inr (0, [.int 0, .int 0, .int 0, .int 0, .ref q_4, .ref q_5, .ref q_6, .ref q_7, .ref q_8, .ref q_9, .ref q_10, .ref q_11, .ref q_12, .ref q_13, .ref q_14, .ref q_15, .ref q_16, .ref q_17, .ref q_18])), (q_4, .inl (cA_19, 301, .inl (fun _ => 0))), (q_15, .inl (cA_20, 301, .inl (fun _ => 0)))] sz) := by
  refine Met.ofW (cc := cX7_readAll) (maxL := 5) (ret := (some .int)) (by decide) rfl ?_
  intro p e s m args below meth c s₁ B hml hv
  obtain ⟨rfl, hsz, hP, hK, hD0⟩ := hv
  have hx := B.exec
  have hb := B.bytes
  have hr := B.returns
  have hts := atoms_spec (ws := v_X7_readAll) B.pre
  have hown : s.vm.findClass RX7 = some m.cls := findClass_of_methodNamed B.named
  have hlocks := B.notSynchronized
  have ow : ∀ {k : Nat} {w : Cond}, o_X7_readAll[k]? = some w → w.before ([.ref q_60, .ref q_1, .int 0, .ref q_3] : List Value).toArray s = true := fun h => hts _ (mow_X7_readAll _ (List.mem_of_getElem? h))
  subst hsz
  have hD := hD0.self (sz := s.heap.size)
  generalize hAe : va_A [(q_60, .inr (7, [.int 0, .ref q_61, .int 0, .int 0, .int 1, .int 0, .int 0, .int 0, .null, .int 0, .int 0, .int 0, .int 0, .long 0, .int 0, .int (-1), .ref q_62, .ref q_63])), (q_62, .inl (cA_64, 60, .inl (fun _ => 0))), (q_63, .inl (cA_65, 60, .inl (fun _ => 0))), (q_3, .inr (0, [.int 0, .int 0, .int 0, .int 0, .ref q_4, .ref q_5, .ref q_6, .ref q_7, .ref q_8, .ref q_9, .ref q_10, .ref q_11, .ref q_12, .ref q_13, .ref q_14, .ref q_15, .ref q_16, .ref q_17, .ref q_18])), (q_4, .inl (cA_19, 301, .inl (fun _ => 0))), (q_15, .inl (cA_20, 301, .inl (fun _ => 0)))] s.heap.size = A at hD ⊢
  have hA : ∀ q : Nat, s.heap.size ≤ q → A q := fun q h => by rw [← hAe]; exact Or.inr h
  have hS : va_S A s.heap s.heap [] := va_S.rf
  have hP : va_P (dC, dI) vwP [(q_60, .inr (7, [.int 0, .ref q_61, .int 0, .int 0, .int 1, .int 0, .int 0, .int 0, .null, .int 0, .int 0, .int 0, .int 0, .long 0, .int 0, .int (-1), .ref q_62, .ref q_63])), (q_62, .inl (cA_64, 60, .inl (fun _ => 0))), (q_63, .inl (cA_65, 60, .inl (fun _ => 0))), (q_3, .inr (0, [.int 0, .int 0, .int 0, .int 0, .ref q_4, .ref q_5, .ref q_6, .ref q_7, .ref q_8, .ref q_9, .ref q_10, .ref q_11, .ref q_12, .ref q_13, .ref q_14, .ref q_15, .ref q_16, .ref q_17, .ref q_18])), (q_4, .inl (cA_19, 301, .inl (fun _ => 0))), (q_15, .inl (cA_20, 301, .inl (fun _ => 0)))] s.heap := hP
  have hl := lv_entry ([.ref q_60, .ref q_1, .int 0, .ref q_3]) (n := 5) (Nat.le_of_ble_eq_true rfl)
  rw [lg_entry_eq]
  generalize (lg_sl ([.ref q_60, .ref q_1, .int 0, .ref q_3]) ++ List.replicate (5 - (lg_sl ([.ref q_60, .ref q_1, .int 0, .ref q_3])).length) Slot.unset).toArray = ls at hl ⊢
  have hl : lv_has ls 5 [(0, .ref q_60), (1, .ref q_1), (2, .int 0), (3, .ref q_3)] := hl
  obtain ⟨H, hH⟩ : ∃ H, H = s.heap := ⟨_, rfl⟩
  rw [← hH] at hP
  have hS : va_S A s.heap H [] := by rw [hH]; exact hS
  rw [← hH]
  refine lv_aload_n hx hb dX7_readAll_0 rfl (lv_at hl 0 rfl) ?_
  refine lv_aload_n hx hb dX7_readAll_1 rfl (lv_at hl 1 rfl) ?_
  refine lv_iload_n hx hb dX7_readAll_2 rfl (lv_at hl 2 rfl) ?_
  refine lv_aload_n hx hb dX7_readAll_3 rfl (lv_at hl 3 rfl) ?_
  have hPc := hP.sub (ws' := [(q_60, .inr (7, [.int 0, .ref q_61, .int 0, .int 0, .int 1, .int 0, .int 0, .int 0, .null, .int 0, .int 0, .int 0, .int 0, .long 0, .int 0, .int (-1), .ref q_62, .ref q_63])), (q_62, .inl (cA_64, 60, .inl (fun _ => 0))), (q_63, .inl (cA_65, 60, .inl (fun _ => 0))), (q_3, .inr (0, [.int 0, .int 0, .int 0, .int 0, .ref q_4, .ref q_5, .ref q_6, .ref q_7, .ref q_8, .ref q_9, .ref q_10, .ref q_11, .ref q_12, .ref q_13, .ref q_14, .ref q_15, .ref q_16, .ref q_17, .ref q_18])), (q_4, .inl (cA_19, 301, .inl (fun _ => 0))), (q_15, .inl (cA_20, 301, .inl (fun _ => 0)))]) [0, 1, 2, 3, 4, 5] rfl
  have hDc := hD.sub (ws' := [(q_60, .inr (7, [.int 0, .ref q_61, .int 0, .int 0, .int 1, .int 0, .int 0, .int 0, .null, .int 0, .int 0, .int 0, .int 0, .long 0, .int 0, .int (-1), .ref q_62, .ref q_63])), (q_62, .inl (cA_64, 60, .inl (fun _ => 0))), (q_63, .inl (cA_65, 60, .inl (fun _ => 0))), (q_3, .inr (0, [.int 0, .int 0, .int 0, .int 0, .ref q_4, .ref q_5, .ref q_6, .ref q_7, .ref q_8, .ref q_9, .ref q_10, .ref q_11, .ref q_12, .ref q_13, .ref q_14, .ref q_15, .ref q_16, .ref q_17, .ref q_18])), (q_4, .inl (cA_19, 301, .inl (fun _ => 0))), (q_15, .inl (cA_20, 301, .inl (fun _ => 0)))]) [0, 1, 2, 3, 4, 5] (by decide) rfl
  have hKc := hK.sub (tys' := [(cA_19, .int), (cA_20, .int), (cA_64, .boolean), (cA_65, .int)]) [0, 1, 2, 3] rfl
  have hFc := va_free (wc := [(q_60, .inr (7, [.int 0, .ref q_61, .int 0, .int 0, .int 1, .int 0, .int 0, .int 0, .null, .int 0, .int 0, .int 0, .int 0, .long 0, .int 0, .int (-1), .ref q_62, .ref q_63])), (q_62, .inl (cA_64, 60, .inl (fun _ => 0))), (q_63, .inl (cA_65, 60, .inl (fun _ => 0))), (q_3, .inr (0, [.int 0, .int 0, .int 0, .int 0, .ref q_4, .ref q_5, .ref q_6, .ref q_7, .ref q_8, .ref q_9, .ref q_10, .ref q_11, .ref q_12, .ref q_13, .ref q_14, .ref q_15, .ref q_16, .ref q_17, .ref q_18])), (q_4, .inl (cA_19, 301, .inl (fun _ => 0))), (q_15, .inl (cA_20, 301, .inl (fun _ => 0)))]) hD hS hA [0, 1, 2, 3, 4, 5] rfl
  refine va_callv (va_runV (As := [.ref q_1, .int 0, .ref q_3]) (rest := []) ⟨hx, hb, hml, hown, hts⟩ (c_X7_begin l dC dI q_60 q_61 q_62 q_63 cA_64 cA_65 q_3 q_4 q_5 q_6 q_7 q_8 q_9 q_10 q_11 q_12 q_13 q_14 q_15 q_16 q_17 q_18 cA_19 cA_20 q_1 H.size) (cwV 3 hts g_X7_readAll_X7_begin rfl rfl rfl (by decide +kernel) ⟨(Nat.le_of_ble_eq_true rfl), (Nat.le_of_ble_eq_true rfl)⟩) ⟨fun a U g mk q => by obtain ⟨q0, q1, qP, qK, qD⟩ := q; exact ⟨q0, q1, qP, va_K.moved (u := U) (U := U.calling g mk a) (Vm.Alike.refl U.vm) qK, qD⟩, va_recv hKc hPc (ci := 7) (q0 := 0) rfl rfl, fun U hU hW => ⟨rfl, by rw [hU], by rw [hU]; exact hPc, va_K.moved hW.alike hKc, hDc.weaken (fun _ _ _ _ => trivial)⟩⟩ rfl rfl hl.1 rfl (lv_room (Nat.le_of_ble_eq_true rfl)) dX7_readAll_4 ⟨(Nat.le_of_ble_eq_true rfl), (Nat.le_of_ble_eq_true rfl)⟩) hS (fun q _ h => hFc q h) hFc (fun  u t H1 locs ht hvm hw hB hz1 hk1 hS => ?_)
  obtain ⟨hP1, hK1, hD1⟩ := hB
  rw [ht] at hP1
  have hK1 := va_K.moved hvm.symm hK1
  obtain ⟨hP, hD⟩ := va_join (wr := []) (w1 := [(q_60, .inr (7, [.int 0, .ref q_1, .int 0, .int 0, .int 1, .int 0, .int 0, .int 0, .ref q_3, .int 0, .int 0, .int 0, .int 0, .long 0, .int 0, .int (-1), .ref q_62, .ref q_63]))]) hP hD [0, 1, 2, 3, 4, 5] [] rfl rfl (by decide) (by decide) hk1 hFc hP1 hD1
  have hK := (hK.sub (tys' := []) [] rfl).app hK1
  generalize H1 = H at hP hS ⊢
  have hP : va_P (dC, dI) vwP [(q_60, .inr (7, [.int 0, .ref q_1, .int 0, .int 0, .int 1, .int 0, .int 0, .int 0, .ref q_3, .int 0, .int 0, .int 0, .int 0, .long 0, .int 0, .int (-1), .ref q_62, .ref q_63]))] H := hP
  have hD : va_D A [(q_60, .inr (7, [.int 0, .ref q_1, .int 0, .int 0, .int 1, .int 0, .int 0, .int 0, .ref q_3, .int 0, .int 0, .int 0, .int 0, .long 0, .int 0, .int (-1), .ref q_62, .ref q_63]))] := hD
  have hK : va_K (dC, dI) vwP [] s := hK
  refine W.widen (k := 0) (n := 0) (Nat.le_of_ble_eq_true rfl) (Nat.le_of_ble_eq_true rfl) ?_
  refine lv_iconst (v := 0) hx hb dX7_readAll_7 (by decide) ?_
  refine lv_istore (lv' := [(4, .int 0), (0, .ref q_60), (1, .ref q_1), (2, .int 0), (3, .ref q_3)]) hx hb dX7_readAll_8 hl (by decide) rfl (fun ls hl => ?_)
  refine lv_iload hx hb dX7_readAll_10 (lv_at hl 0 rfl) ?_
  refine lv_iload_n hx hb dX7_readAll_12 rfl (lv_at hl 3 rfl) ?_
  refine lv_icmp_gt (tgt := 54) hx hb dX7_readAll_13 (by decide) (fun h9 => absurd h9 (by decide)) (fun _ => ?_)
  refine lv_aload_n hx hb dX7_readAll_16 rfl (lv_at hl 1 rfl) ?_
  have hPc := hP.sub (ws' := [(q_60, .inr (7, [.int 0, .ref q_1, .int 0, .int 0, .int 1, .int 0, .int 0, .int 0, .ref q_3, .int 0, .int 0, .int 0, .int 0, .long 0, .int 0, .int (-1), .ref q_62, .ref q_63]))]) [0] rfl
  have hDc := hD.sub (ws' := [(q_60, .inr (7, [.int 0, .ref q_1, .int 0, .int 0, .int 1, .int 0, .int 0, .int 0, .ref q_3, .int 0, .int 0, .int 0, .int 0, .long 0, .int 0, .int (-1), .ref q_62, .ref q_63]))]) [0] (by decide) rfl
  have hKc := hK.sub (tys' := []) [] rfl
  have hFc := va_free (wc := [(q_60, .inr (7, [.int 0, .ref q_1, .int 0, .int 0, .int 1, .int 0, .int 0, .int 0, .ref q_3, .int 0, .int 0, .int 0, .int 0, .long 0, .int 0, .int (-1), .ref q_62, .ref q_63]))]) hD hS hA [0] rfl
  refine va_callv (va_runV (As := []) (rest := []) ⟨hx, hb, hml, hown, hts⟩ (c_X7_scan l dC dI q_60 q_1 q_3 q_62 q_63 H.size) (cwV 0 hts g_X7_readAll_X7_scan rfl rfl rfl (by decide +kernel) ⟨(Nat.le_of_ble_eq_true rfl), (Nat.le_of_ble_eq_true rfl)⟩) ⟨fun a U g mk q => by obtain ⟨q0, q1, qP, qK, qD⟩ := q; exact ⟨q0, q1, qP, va_K.moved (u := U) (U := U.calling g mk a) (Vm.Alike.refl U.vm) qK, qD⟩, va_recv hKc hPc (ci := 7) (q0 := 0) rfl rfl, fun U hU hW => ⟨rfl, by rw [hU], by rw [hU]; exact hPc, va_K.moved hW.alike hKc, hDc.weaken (fun _ _ _ _ => trivial)⟩⟩ rfl rfl hl.1 rfl (lv_room (Nat.le_of_ble_eq_true rfl)) dX7_readAll_17 ⟨(Nat.le_of_ble_eq_true rfl), (Nat.le_of_ble_eq_true rfl)⟩) hS (fun q _ h => hFc q h) hFc (fun  u t H1 locs ht hvm hw hB hz1 hk1 hS => ?_)
  obtain ⟨hP1, hK1, hD1⟩ := hB
  rw [ht] at hP1
  have hK1 := va_K.moved hvm.symm hK1
  obtain ⟨hP, hD⟩ := va_join (wr := []) (w1 := [(q_60, .inr (7, [.int 0, .ref q_1, .int 0, .int 0, .int 1, .int 0, .int 0, .int 0, .ref q_3, .int 0, .int 0, .int 0, .int 0, .long 0, .int 0, .int (-1), .ref q_62, .ref q_63]))]) hP hD [0] [] rfl rfl (by decide) (by decide) hk1 hFc hP1 hD1
  have hK := (hK.sub (tys' := []) [] rfl).app hK1
  generalize H1 = H at hP hS ⊢
  have hP : va_P (dC, dI) vwP [(q_60, .inr (7, [.int 0, .ref q_1, .int 0, .int 0, .int 1, .int 0, .int 0, .int 0, .ref q_3, .int 0, .int 0, .int 0, .int 0, .long 0, .int 0, .int (-1), .ref q_62, .ref q_63]))] H := hP
  have hD : va_D A [(q_60, .inr (7, [.int 0, .ref q_1, .int 0, .int 0, .int 1, .int 0, .int 0, .int 0, .ref q_3, .int 0, .int 0, .int 0, .int 0, .long 0, .int 0, .int (-1), .ref q_62, .ref q_63]))] := hD
  have hK : va_K (dC, dI) vwP [] s := hK
  refine W.widen (k := 0) (n := 0) (Nat.le_of_ble_eq_true rfl) (Nat.le_of_ble_eq_true rfl) ?_
  refine lv_aload_n hx hb dX7_readAll_20 rfl (lv_at hl 1 rfl) ?_
  refine va_get (D := (dC, dI)) (ci := 7) (v := .int 1) (C := RX7) (T := TX7) (N := 18) hx hb hts mem_X7_readAll_2 hown hK hP 0 rfl rfl 4 (by decide) (ow (k := 7) rfl) (fun _ h9 => h9) rfl dX7_readAll_21 ?_
  refine lv_iconst (v := 1) hx hb dX7_readAll_24 (by decide) ?_
  refine lv_icmp_ne (tgt := 31) hx hb dX7_readAll_25 (by decide) (fun h9 => absurd h9 (by decide)) (fun _ => ?_)
  refine lv_goto (tgt := 54) hx hb dX7_readAll_28 (by decide) ?_
  refine lv_aload_n hx hb dX7_readAll_54 rfl (lv_at hl 1 rfl) ?_
  refine va_get (D := (dC, dI)) (ci := 7) (v := .int 0) (C := RX7) (T := TX7) (N := 18) hx hb hts mem_X7_readAll_2 hown hK hP 0 rfl rfl 7 (by decide) (ow (k := 8) rfl) (fun _ h9 => h9) rfl dX7_readAll_55 ?_
  refine lv_if_ne (tgt := 68) hx hb dX7_readAll_58 (by decide) (fun h9 => absurd h9 (by decide)) (fun _ => ?_)
  refine lv_aload_n hx hb dX7_readAll_61 rfl (lv_at hl 1 rfl) ?_
  refine va_get (D := (dC, dI)) (ci := 7) (v := .int 0) (C := RX7) (T := TX7) (N := 18) hx hb hts mem_X7_readAll_2 hown hK hP 0 rfl rfl 10 (by decide) (ow (k := 9) rfl) (fun _ h9 => h9) rfl dX7_readAll_62 ?_
  refine lv_if_ne (tgt := 75) hx hb dX7_readAll_65 (by decide) (fun h9 => absurd h9 (by decide)) (fun _ => ?_)
  refine lv_aload_n hx hb dX7_readAll_68 rfl (lv_at hl 1 rfl) ?_
  refine lv_iconst (v := 1) hx hb dX7_readAll_69 (by decide) ?_
  refine va_put (D := (dC, dI)) (ci := 7) (v := .int 1) (ty := .int) (C := RX7) (T := TX7) (N := 18) hx hb hts mem_X7_readAll_2 tyX7 tyX7_ok nmX7 hown hK hP hD hS 0 rfl rfl 0 (by decide) (ow (k := 10) rfl) (fun _ h9 => h9) rfl (by decide +kernel) rfl rfl (Nat.le_of_ble_eq_true rfl) dX7_readAll_70 (fun H locs hP hD hS => ?_)
  have hP : va_P (dC, dI) vwP [(q_60, .inr (7, [.int 1, .ref q_1, .int 0, .int 0, .int 1, .int 0, .int 0, .int 0, .ref q_3, .int 0, .int 0, .int 0, .int 0, .long 0, .int 0, .int (-1), .ref q_62, .ref q_63]))] H := hP
  have hD : va_D A [(q_60, .inr (7, [.int 1, .ref q_1, .int 0, .int 0, .int 1, .int 0, .int 0, .int 0, .ref q_3, .int 0, .int 0, .int 0, .int 0, .long 0, .int 0, .int (-1), .ref q_62, .ref q_63]))] := hD
  refine lv_iload_n hx hb dX7_readAll_73 rfl (lv_at hl 3 rfl) ?_
  have hP := hP.sub (ws' := []) [] rfl
  have hD := hD.sub (ws' := []) [] (by decide) rfl
  refine W.widen (k := 0) (n := 0) (Nat.le_of_ble_eq_true rfl) (Nat.le_of_ble_eq_true rfl) ?_
  exact W.iret (v := 0) hx hb hr (fun t ht hW => ⟨⟨0, (), rfl, rfl, by rw [ht]; exact hP, va_K.moved hW.alike hK, hD⟩, hS.F ht⟩) hS.2.2 dX7_readAll_74
theorem dX11_text_0 : decode cX11_text 0 = .ok (.aload_n 0, 1) := by decide +kernel
theorem dX11_text_1 : decode cX11_text 1 = .ok (.getfield 54, 3) := by decide +kernel
theorem dX11_text_4 : decode cX11_text 4 = .ok (.aload_n 0, 1) := by decide +kernel
theorem dX11_text_5 : decode cX11_text 5 = .ok (.getfield 9, 3) := by decide +kernel
theorem dX11_text_8 : decode cX11_text 8 = .ok (.aload_n 0, 1) := by decide +kernel
theorem dX11_text_9 : decode cX11_text 9 = .ok (.getfield 13, 3) := by decide +kernel
theorem dX11_text_12 : decode cX11_text 12 = .ok (.aload_n 0, 1) := by decide +kernel
theorem dX11_text_13 : decode cX11_text 13 = .ok (.getfield 23, 3) := by decide +kernel
theorem dX11_text_16 : decode cX11_text 16 = .ok (.invokevirtual 123, 3) := by decide +kernel
theorem dX11_text_19 : decode cX11_text 19 = .ok (.istore_n 1, 1) := by decide +kernel
theorem dX11_text_20 : decode cX11_text 20 = .ok (.aload_n 0, 1) := by decide +kernel
theorem dX11_text_21 : decode cX11_text 21 = .ok (.iconst 0, 1) := by decide +kernel
theorem dX11_text_22 : decode cX11_text 22 = .ok (.putfield 13, 3) := by decide +kernel
theorem dX11_text_25 : decode cX11_text 25 = .ok (.aload_n 0, 1) := by decide +kernel
theorem dX11_text_26 : decode cX11_text 26 = .ok (.iload_n 1, 1) := by decide +kernel
theorem dX11_text_27 : decode cX11_text 27 = .ok (.ifCond .ge 7, 3) := by decide +kernel
theorem dX11_text_34 : decode cX11_text 34 = .ok (.iconst (-1), 1) := by decide +kernel
theorem dX11_text_35 : decode cX11_text 35 = .ok (.putfield 17, 3) := by decide +kernel
theorem dX11_text_38 : decode cX11_text 38 = .ok (.aload_n 0, 1) := by decide +kernel
theorem dX11_text_39 : decode cX11_text 39 = .ok (.iconst 0, 1) := by decide +kernel
theorem dX11_text_40 : decode cX11_text 40 = .ok (.putfield 37, 3) := by decide +kernel
theorem dX11_text_43 : decode cX11_text 43 = .ok (.aload_n 0, 1) := by decide +kernel
theorem dX11_text_44 : decode cX11_text 44 = .ok (.iconst 0, 1) := by decide +kernel
theorem dX11_text_45 : decode cX11_text 45 = .ok (.putfield 48, 3) := by decide +kernel
theorem dX11_text_48 : decode cX11_text 48 = .ok (.iload_n 1, 1) := by decide +kernel
theorem dX11_text_49 : decode cX11_text 49 = .ok (.ireturn, 1) := by decide +kernel
def o_X11_text : List Cond := [.fieldLink RX11 54 "SsaForge" "reader" "LSsaForge$Reader;", .fieldLink RX11 9 "SsaForge" "tape" "[B", .fieldLink RX11 13 "SsaForge" "tapeLength" "I", .fieldLink RX11 23 "SsaForge" "code" "LSsaForge$Code;", .methodLink RX11 123 yX7_readAll, .instanceMethod yX7_readAll, .selects RX7 yX7_readAll yX7_readAll, .initialized RX7, .fieldLink RX11 17 "SsaForge" "form" "I", .fieldLink RX11 37 "SsaForge" "flowKnown" "Z", .fieldLink RX11 48 "SsaForge" "liveKnown" "Z"]
def v_X11_text : List Cond := .code yX11_text cX11_text 2 (some .int) :: (o_X11_text ++ (wsX110 ++ (v_X7_readAll ++ [])))
theorem mow_X11_text : ∀ w ∈ o_X11_text, w ∈ v_X11_text := fun _ h => List.mem_cons_of_mem _ (List.mem_append_left _ h)
theorem mem_X11_text_0 : ∀ w ∈ wsX110, w ∈ v_X11_text := fun _ h => List.mem_cons_of_mem _ (List.mem_append_right _ (List.mem_append_left _ h))
theorem mem_X11_text_1 : ∀ w ∈ v_X7_readAll, w ∈ v_X11_text := fun _ h => List.mem_cons_of_mem _ (List.mem_append_right _ (List.mem_append_right _ (List.mem_append_left _ h)))
set_option maxRecDepth 20000 in
theorem gw_X11_text : v_X11_text.all goodWord = true := by decide +kernel
set_option maxRecDepth 20000 in
theorem g_X11_text_X7_readAll : GoodIn v_X11_text (wsV RX11 123 RX7 yX7_readAll v_X7_readAll) := goodIn_app (goodIn_sub (fun w h => mow_X11_text w (by revert w h; decide +kernel)) (by decide +kernel)) (goodIn_sub mem_X11_text_1 gw_X7_readAll)
set_option maxHeartbeats 4000000 in
set_option maxRecDepth 100000 in
theorem c_X11_text (l : Launch) (dC : Nat → ClassId) (dI : Nat → Nat → Nat) (h0 : Nat) (q_1 : Nat) (q_3 : Nat) (q_21 : Nat) (q_39 : Nat) (q_52 : Nat) (q_60 : Nat) (q_66 : Nat) (q_73 : Nat) (q_79 : Nat) (q_84 : Nat) (q_92 : Nat) (q_102 : Nat) (q_107 : Nat) (q_61 : Nat) (q_62 : Nat) (q_63 : Nat) (cA_64 : ClassId) (cA_65 : ClassId) (q_4 : Nat) (q_5 : Nat) (q_6 : Nat) (q_7 : Nat) (q_8 : Nat) (q_9 : Nat) (q_10 : Nat) (q_11 : Nat) (q_12 : Nat) (q_13 : Nat) (q_14 : Nat) (q_15 : Nat) (q_16 : Nat) (q_17 : Nat) (q_18 : Nat) (cA_19 : ClassId) (cA_20 : ClassId) (sz : Nat) : Met l yX11_text v_X11_text ({ frames := 3, cells := 0, slots := 0, locals := 68 }) (va_Pc [.ref h0] (fun U => U.heap.size = sz ∧ va_P (dC, dI) vwP [(h0, .inr (11, [.ref q_1, .int 0, .int (-1), .ref q_3, .ref q_21, .ref q_39, .int 0, .ref q_52, .int 0, .ref q_60, .ref q_66, .ref q_73, .ref q_79, .ref q_84, .ref q_92, .ref q_102, .ref q_107])), (q_60, .inr (7, [.int 0, .ref q_61, .int 0, .int 0, .int 1, .int 0, .int 0, .int 0, .null, .int 0, .int 0, .int 0, .int 0, .long 0, .int 0, .int (-1), .ref q_62, .ref q_63])), (q_62, .inl (cA_64, 60, .inl (fun _ => 0))), (q_63, .inl (cA_65, 60, .inl (fun _ => 0))), (q_3, .inr (0, [.int 0, .int 0, .int 0, .int 0, .ref q_4, .ref q_5, .ref q_6, .ref q_7, .ref q_8, .ref q_9, .ref q_10, .ref q_11, .ref q_12, .ref q_13, .ref q_14, .ref q_15, .ref q_16, .ref q_17, .ref q_18])), (q_4, .inl (cA_19, 301, .inl (fun _ => 0))), (q_15, .inl (cA_20, 301, .inl (fun _ => 0)))] U.heap ∧ va_K (dC, dI) vwP [(cA_19, .int), (cA_20, .int), (cA_64, .boolean), (cA_65, .int)] U ∧ va_D (fun _ => True) [(h0, .inr (11, [.ref q_1, .int 0, .int (-1), .ref q_3, .ref q_21, .ref q_39, .int 0, .ref q_52, .int 0, .ref q_60, .ref q_66, .ref q_73, .ref q_79, .ref q_84, .ref q_92, .ref q_102, .ref q_107])), (q_60, .inr (7, [.int 0, .ref q_61, .int 0, .int 0, .int 1, .int 0, .int 0, .int 0, .null, .int 0, .int 0, .int 0, .int 0, .long 0, .int 0, .int (-1), .ref q_62, .ref q_63])), (q_62, .inl (cA_64, 60, .inl (fun _ => 0))), (q_63, .inl (cA_65, 60, .inl (fun _ => 0))), (q_3, .inr (0, [.int 0, .int 0, .int 0, .int 0, .ref q_4, .ref q_5, .ref q_6, .ref q_7, .ref q_8, .ref q_9, .ref q_10, .ref q_11, .ref q_12, .ref q_13, .ref q_14, .ref q_15, .ref q_16, .ref q_17, .ref q_18])), (q_4, .inl (cA_19, 301, .inl (fun _ => 0))), (q_15, .inl (cA_20, 301, .inl (fun _ => 0)))])) (va_Qi (fun (r : Int32) (_ : Unit) => r = 0) (fun (_ : Unit) (t : State) => va_P (dC, dI) vwP [] t.heap ∧ va_K (dC, dI) vwP [] t ∧ va_D (va_A [(h0, .inr (11, [.ref q_1, .int 0, .int (-1), .ref q_3, .ref q_21, .ref q_39, .int 0, .ref q_52, .int 0, .ref q_60, .ref q_66, .ref q_73, .ref q_79, .ref q_84, .ref q_92, .ref q_102, .ref q_107])), (q_60, .inr (7, [.int 0, .ref q_61, .int 0, .int 0, .int 1, .int 0, .int 0, .int 0, .null, .int 0, .int 0, .int 0, .int 0, .long 0, .int 0, .int (-1), .ref q_62, .ref q_63])), (q_62, .inl (cA_64, 60, .inl (fun _ => 0))), (q_63, .inl (cA_65, 60, .inl (fun _ => 0))), (q_3, .inr (0, [.int 0, .int 0, .int 0, .int 0, .ref q_4, .ref q_5, .ref q_6, .ref q_7, .ref q_8, .ref q_9, .ref q_10, .ref q_11, .ref q_12, .ref q_13, .ref q_14, .ref q_15, .ref q_16, .ref q_17, .ref q_18])), (q_4, .inl (cA_19, 301, .inl (fun _ => 0))), (q_15, .inl (cA_20, 301, .inl (fun _ => 0)))] sz) []) (va_A [(h0, .inr (11, [.ref q_1, .int 0, .int (-1), .ref q_3, .ref q_21, .ref q_39, .int 0, .ref q_52, .int 0, .ref q_60, .ref q_66, .ref q_73, .ref q_79, .ref q_84, .ref q_92, .ref q_102, .ref q_107])), (q_60, .inr (7, [.int 0, .ref q_61, .int 0, .int 0, .int 1, .int 0, .int 0, .int 0, .null, .int 0, .int 0, .int 0, .int 0, .long 0, .int 0, .int (-1), .ref q_62, .ref q_63])), (q_62, .inl (cA_64, 60, .inl (fun _ => 0))), (q_63, .inl (cA_65, 60, .inl (fun _ => 0))), (q_3, .inr (0, [.int 0, .int 0, .int 0, .int 0, .ref q_4, .ref q_5, .ref q_6, .ref q_7, .ref q_8, .ref q_9, .ref q_10, .ref q_11, .ref q_12, .ref q_13, .ref q_14, .ref q_15, .ref q_16, .ref q_17, .ref q_18])), (q_4, .inl (cA_19, 301, .inl (fun _ => 0))), (q_15, .inl (cA_20, 301, .inl (fun _ => 0)))] sz)) 0 0 (va_A [(h0, .inr (11, [.ref q_1, .int 0, .int (-1), .ref q_3, .ref q_21, .ref q_39, .int 0, .ref q_52, .int 0, .ref q_60, .ref q_66, .ref q_73, .ref q_79, .ref q_84, .ref q_92, .ref q_102, .ref q_107])), (q_60, .inr (7, [.int 0, .ref q_61, .int 0, .int 0, .int 1, .int 0, .int 0, .int 0, .null, .int 0, .int 0, .int 0, .int 0, .long 0, .int 0, .int (-1), .ref q_62, .ref q_63])), (q_62, .inl (cA_64, 60, .inl (fun _ => 0))), (q_63, .inl (cA_65, 60, .inl (fun _ => 0))), (q_3, .inr (0, [.int 0, .int 0, .int 0, .int 0, .ref q_4, .ref q_5, .ref q_6, .ref q_7, .ref q_8, .ref q_9, .ref q_10, .ref q_11, .ref q_12, .ref q_13, .ref q_14, .ref q_15, .ref q_16, .ref q_17, .ref q_18])), (q_4, .inl (cA_19, 301, .inl (fun _ => 0))), (q_15, .inl (cA_20, 301, .inl (fun _ => 0)))] sz) := by
  refine Met.ofW (cc := cX11_text) (maxL := 2) (ret := (some .int)) (by decide) rfl ?_
  intro p e s m args below meth c s₁ B hml hv
  obtain ⟨rfl, hsz, hP, hK, hD0⟩ := hv
  have hx := B.exec
  have hb := B.bytes
  have hr := B.returns
  have hts := atoms_spec (ws := v_X11_text) B.pre
  have hown : s.vm.findClass RX11 = some m.cls := findClass_of_methodNamed B.named
  have hlocks := B.notSynchronized
  have ow : ∀ {k : Nat} {w : Cond}, o_X11_text[k]? = some w → w.before ([.ref h0] : List Value).toArray s = true := fun h => hts _ (mow_X11_text _ (List.mem_of_getElem? h))
  subst hsz
  have hD := hD0.self (sz := s.heap.size)
  generalize hAe : va_A [(h0, .inr (11, [.ref q_1, .int 0, .int (-1), .ref q_3, .ref q_21, .ref q_39, .int 0, .ref q_52, .int 0, .ref q_60, .ref q_66, .ref q_73, .ref q_79, .ref q_84, .ref q_92, .ref q_102, .ref q_107])), (q_60, .inr (7, [.int 0, .ref q_61, .int 0, .int 0, .int 1, .int 0, .int 0, .int 0, .null, .int 0, .int 0, .int 0, .int 0, .long 0, .int 0, .int (-1), .ref q_62, .ref q_63])), (q_62, .inl (cA_64, 60, .inl (fun _ => 0))), (q_63, .inl (cA_65, 60, .inl (fun _ => 0))), (q_3, .inr (0, [.int 0, .int 0, .int 0, .int 0, .ref q_4, .ref q_5, .ref q_6, .ref q_7, .ref q_8, .ref q_9, .ref q_10, .ref q_11, .ref q_12, .ref q_13, .ref q_14, .ref q_15, .ref q_16, .ref q_17, .ref q_18])), (q_4, .inl (cA_19, 301, .inl (fun _ => 0))), (q_15, .inl (cA_20, 301, .inl (fun _ => 0)))] s.heap.size = A at hD ⊢
  have hA : ∀ q : Nat, s.heap.size ≤ q → A q := fun q h => by rw [← hAe]; exact Or.inr h
  have hS : va_S A s.heap s.heap [] := va_S.rf
  have hP : va_P (dC, dI) vwP [(h0, .inr (11, [.ref q_1, .int 0, .int (-1), .ref q_3, .ref q_21, .ref q_39, .int 0, .ref q_52, .int 0, .ref q_60, .ref q_66, .ref q_73, .ref q_79, .ref q_84, .ref q_92, .ref q_102, .ref q_107])), (q_60, .inr (7, [.int 0, .ref q_61, .int 0, .int 0, .int 1, .int 0, .int 0, .int 0, .null, .int 0, .int 0, .int 0, .int 0, .long 0, .int 0, .int (-1), .ref q_62, .ref q_63])), (q_62, .inl (cA_64, 60, .inl (fun _ => 0))), (q_63, .inl (cA_65, 60, .inl (fun _ => 0))), (q_3, .inr (0, [.int 0, .int 0, .int 0, .int 0, .ref q_4, .ref q_5, .ref q_6, .ref q_7, .ref q_8, .ref q_9, .ref q_10, .ref q_11, .ref q_12, .ref q_13, .ref q_14, .ref q_15, .ref q_16, .ref q_17, .ref q_18])), (q_4, .inl (cA_19, 301, .inl (fun _ => 0))), (q_15, .inl (cA_20, 301, .inl (fun _ => 0)))] s.heap := hP
  have hl := lv_entry ([.ref h0]) (n := 2) (Nat.le_of_ble_eq_true rfl)
  rw [lg_entry_eq]
  generalize (lg_sl ([.ref h0]) ++ List.replicate (2 - (lg_sl ([.ref h0])).length) Slot.unset).toArray = ls at hl ⊢
  have hl : lv_has ls 2 [(0, .ref h0)] := hl
  obtain ⟨H, hH⟩ : ∃ H, H = s.heap := ⟨_, rfl⟩
  rw [← hH] at hP
  have hS : va_S A s.heap H [] := by rw [hH]; exact hS
  rw [← hH]
  refine lv_aload_n hx hb dX11_text_0 rfl (lv_at hl 0 rfl) ?_
  refine va_get (D := (dC, dI)) (ci := 11) (v := .ref q_60) (C := RX11) (T := TX11) (N := 17) hx hb hts mem_X11_text_0 hown hK hP 0 rfl rfl 9 (by decide) (ow (k := 0) rfl) (fun _ h9 => h9) rfl dX11_text_1 ?_
  refine lv_aload_n hx hb dX11_text_4 rfl (lv_at hl 0 rfl) ?_
  refine va_get (D := (dC, dI)) (ci := 11) (v := .ref q_1) (C := RX11) (T := TX11) (N := 17) hx hb hts mem_X11_text_0 hown hK hP 0 rfl rfl 0 (by decide) (ow (k := 1) rfl) (fun _ h9 => h9) rfl dX11_text_5 ?_
  refine lv_aload_n hx hb dX11_text_8 rfl (lv_at hl 0 rfl) ?_
  refine va_get (D := (dC, dI)) (ci := 11) (v := .int 0) (C := RX11) (T := TX11) (N := 17) hx hb hts mem_X11_text_0 hown hK hP 0 rfl rfl 1 (by decide) (ow (k := 2) rfl) (fun _ h9 => h9) rfl dX11_text_9 ?_
  refine lv_aload_n hx hb dX11_text_12 rfl (lv_at hl 0 rfl) ?_
  refine va_get (D := (dC, dI)) (ci := 11) (v := .ref q_3) (C := RX11) (T := TX11) (N := 17) hx hb hts mem_X11_text_0 hown hK hP 0 rfl rfl 3 (by decide) (ow (k := 3) rfl) (fun _ h9 => h9) rfl dX11_text_13 ?_
  have hPc := hP.sub (ws' := [(q_60, .inr (7, [.int 0, .ref q_61, .int 0, .int 0, .int 1, .int 0, .int 0, .int 0, .null, .int 0, .int 0, .int 0, .int 0, .long 0, .int 0, .int (-1), .ref q_62, .ref q_63])), (q_62, .inl (cA_64, 60, .inl (fun _ => 0))), (q_63, .inl (cA_65, 60, .inl (fun _ => 0))), (q_3, .inr (0, [.int 0, .int 0, .int 0, .int 0, .ref q_4, .ref q_5, .ref q_6, .ref q_7, .ref q_8, .ref q_9, .ref q_10, .ref q_11, .ref q_12, .ref q_13, .ref q_14, .ref q_15, .ref q_16, .ref q_17, .ref q_18])), (q_4, .inl (cA_19, 301, .inl (fun _ => 0))), (q_15, .inl (cA_20, 301, .inl (fun _ => 0)))]) [1, 2, 3, 4, 5, 6] rfl
  have hDc := hD.sub (ws' := [(q_60, .inr (7, [.int 0, .ref q_61, .int 0, .int 0, .int 1, .int 0, .int 0, .int 0, .null, .int 0, .int 0, .int 0, .int 0, .long 0, .int 0, .int (-1), .ref q_62, .ref q_63])), (q_62, .inl (cA_64, 60, .inl (fun _ => 0))), (q_63, .inl (cA_65, 60, .inl (fun _ => 0))), (q_3, .inr (0, [.int 0, .int 0, .int 0, .int 0, .ref q_4, .ref q_5, .ref q_6, .ref q_7, .ref q_8, .ref q_9, .ref q_10, .ref q_11, .ref q_12, .ref q_13, .ref q_14, .ref q_15, .ref q_16, .ref q_17, .ref q_18])), (q_4, .inl (cA_19, 301, .inl (fun _ => 0))), (q_15, .inl (cA_20, 301, .inl (fun _ => 0)))]) [1, 2, 3, 4, 5, 6] (by decide) rfl
  have hKc := hK.sub (tys' := [(cA_19, .int), (cA_20, .int), (cA_64, .boolean), (cA_65, .int)]) [0, 1, 2, 3] rfl
  have hFc := va_free (wc := [(q_60, .inr (7, [.int 0, .ref q_61, .int 0, .int 0, .int 1, .int 0, .int 0, .int 0, .null, .int 0, .int 0, .int 0, .int 0, .long 0, .int 0, .int (-1), .ref q_62, .ref q_63])), (q_62, .inl (cA_64, 60, .inl (fun _ => 0))), (q_63, .inl (cA_65, 60, .inl (fun _ => 0))), (q_3, .inr (0, [.int 0, .int 0, .int 0, .int 0, .ref q_4, .ref q_5, .ref q_6, .ref q_7, .ref q_8, .ref q_9, .ref q_10, .ref q_11, .ref q_12, .ref q_13, .ref q_14, .ref q_15, .ref q_16, .ref q_17, .ref q_18])), (q_4, .inl (cA_19, 301, .inl (fun _ => 0))), (q_15, .inl (cA_20, 301, .inl (fun _ => 0)))]) hD hS hA [1, 2, 3, 4, 5, 6] rfl
  refine va_calli (va_runV (As := [.ref q_1, .int 0, .ref q_3]) (rest := []) ⟨hx, hb, hml, hown, hts⟩ (c_X7_readAll l dC dI q_60 q_61 q_62 q_63 cA_64 cA_65 q_3 q_4 q_5 q_6 q_7 q_8 q_9 q_10 q_11 q_12 q_13 q_14 q_15 q_16 q_17 q_18 cA_19 cA_20 q_1 H.size) (cwV 3 hts g_X11_text_X7_readAll rfl rfl rfl (by decide +kernel) ⟨(Nat.le_of_ble_eq_true rfl), (Nat.le_of_ble_eq_true rfl)⟩) ⟨fun a U g mk q => by obtain ⟨q0, q1, qP, qK, qD⟩ := q; exact ⟨q0, q1, qP, va_K.moved (u := U) (U := U.calling g mk a) (Vm.Alike.refl U.vm) qK, qD⟩, va_recv hKc hPc (ci := 7) (q0 := 0) rfl rfl, fun U hU hW => ⟨rfl, by rw [hU], by rw [hU]; exact hPc, va_K.moved hW.alike hKc, hDc.weaken (fun _ _ _ _ => trivial)⟩⟩ rfl rfl hl.1 rfl (lv_room (Nat.le_of_ble_eq_true rfl)) dX11_text_16 ⟨(Nat.le_of_ble_eq_true rfl), (Nat.le_of_ble_eq_true rfl)⟩) hS (fun q _ h => hFc q h) hFc (fun r_1 u t H1 locs ht hvm hw hB hz1 hk1 hS => ?_)
  obtain ⟨hP1, hK1, hD1⟩ := hB
  rw [ht] at hP1
  have hK1 := va_K.moved hvm.symm hK1
  obtain ⟨hP, hD⟩ := va_join (wr := [(h0, .inr (11, [.ref q_1, .int 0, .int (-1), .ref q_3, .ref q_21, .ref q_39, .int 0, .ref q_52, .int 0, .ref q_60, .ref q_66, .ref q_73, .ref q_79, .ref q_84, .ref q_92, .ref q_102, .ref q_107]))]) (w1 := []) hP hD [1, 2, 3, 4, 5, 6] [0] rfl rfl (by decide) (by decide) hk1 hFc hP1 hD1
  have hK := (hK.sub (tys' := []) [] rfl).app hK1
  generalize H1 = H at hP hS ⊢
  have hP : va_P (dC, dI) vwP [(h0, .inr (11, [.ref q_1, .int 0, .int (-1), .ref q_3, .ref q_21, .ref q_39, .int 0, .ref q_52, .int 0, .ref q_60, .ref q_66, .ref q_73, .ref q_79, .ref q_84, .ref q_92, .ref q_102, .ref q_107]))] H := hP
  have hD : va_D A [(h0, .inr (11, [.ref q_1, .int 0, .int (-1), .ref q_3, .ref q_21, .ref q_39, .int 0, .ref q_52, .int 0, .ref q_60, .ref q_66, .ref q_73, .ref q_79, .ref q_84, .ref q_92, .ref q_102, .ref q_107]))] := hD
  have hK : va_K (dC, dI) vwP [] s := hK
  refine W.widen (k := 0) (n := 0) (Nat.le_of_ble_eq_true rfl) (Nat.le_of_ble_eq_true rfl) ?_
  obtain rfl : r_1 = 0 := hw
  refine lv_istore_n (lv' := [(1, .int 0), (0, .ref h0)]) hx hb dX11_text_19 rfl hl (by decide) rfl (fun ls hl => ?_)
  refine lv_aload_n hx hb dX11_text_20 rfl (lv_at hl 1 rfl) ?_
  refine lv_iconst (v := 0) hx hb dX11_text_21 (by decide) ?_
  refine va_put (D := (dC, dI)) (ci := 11) (v := .int 0) (ty := .int) (C := RX11) (T := TX11) (N := 17) hx hb hts mem_X11_text_0 tyX11 tyX11_ok nmX11 hown hK hP hD hS 0 rfl rfl 1 (by decide) (ow (k := 2) rfl) (fun _ h9 => h9) rfl (by decide +kernel) rfl rfl (Nat.le_of_ble_eq_true rfl) dX11_text_22 (fun H locs hP hD hS => ?_)
  have hP : va_P (dC, dI) vwP [(h0, .inr (11, [.ref q_1, .int 0, .int (-1), .ref q_3, .ref q_21, .ref q_39, .int 0, .ref q_52, .int 0, .ref q_60, .ref q_66, .ref q_73, .ref q_79, .ref q_84, .ref q_92, .ref q_102, .ref q_107]))] H := hP
  have hD : va_D A [(h0, .inr (11, [.ref q_1, .int 0, .int (-1), .ref q_3, .ref q_21, .ref q_39, .int 0, .ref q_52, .int 0, .ref q_60, .ref q_66, .ref q_73, .ref q_79, .ref q_84, .ref q_92, .ref q_102, .ref q_107]))] := hD
  refine lv_aload_n hx hb dX11_text_25 rfl (lv_at hl 1 rfl) ?_
  refine lv_iload_n hx hb dX11_text_26 rfl (lv_at hl 0 rfl) ?_
  refine lv_if_ge (tgt := 34) hx hb dX11_text_27 (by decide) (fun _ => ?_) (fun h9 => absurd h9 (by decide))
  refine lv_iconst (v := (-1)) hx hb dX11_text_34 (by decide) ?_
  refine va_put (D := (dC, dI)) (ci := 11) (v := .int (-1)) (ty := .int) (C := RX11) (T := TX11) (N := 17) hx hb hts mem_X11_text_0 tyX11 tyX11_ok nmX11 hown hK hP hD hS 0 rfl rfl 2 (by decide) (ow (k := 8) rfl) (fun _ h9 => h9) rfl (by decide +kernel) rfl rfl (Nat.le_of_ble_eq_true rfl) dX11_text_35 (fun H locs hP hD hS => ?_)
  have hP : va_P (dC, dI) vwP [(h0, .inr (11, [.ref q_1, .int 0, .int (-1), .ref q_3, .ref q_21, .ref q_39, .int 0, .ref q_52, .int 0, .ref q_60, .ref q_66, .ref q_73, .ref q_79, .ref q_84, .ref q_92, .ref q_102, .ref q_107]))] H := hP
  have hD : va_D A [(h0, .inr (11, [.ref q_1, .int 0, .int (-1), .ref q_3, .ref q_21, .ref q_39, .int 0, .ref q_52, .int 0, .ref q_60, .ref q_66, .ref q_73, .ref q_79, .ref q_84, .ref q_92, .ref q_102, .ref q_107]))] := hD
  refine lv_aload_n hx hb dX11_text_38 rfl (lv_at hl 1 rfl) ?_
  refine lv_iconst (v := 0) hx hb dX11_text_39 (by decide) ?_
  refine va_put (D := (dC, dI)) (ci := 11) (v := .int 0) (ty := .boolean) (C := RX11) (T := TX11) (N := 17) hx hb hts mem_X11_text_0 tyX11 tyX11_ok nmX11 hown hK hP hD hS 0 rfl rfl 6 (by decide) (ow (k := 9) rfl) (fun _ h9 => h9) rfl (by decide +kernel) rfl rfl (Nat.le_of_ble_eq_true rfl) dX11_text_40 (fun H locs hP hD hS => ?_)
  have hP : va_P (dC, dI) vwP [(h0, .inr (11, [.ref q_1, .int 0, .int (-1), .ref q_3, .ref q_21, .ref q_39, .int 0, .ref q_52, .int 0, .ref q_60, .ref q_66, .ref q_73, .ref q_79, .ref q_84, .ref q_92, .ref q_102, .ref q_107]))] H := hP
  have hD : va_D A [(h0, .inr (11, [.ref q_1, .int 0, .int (-1), .ref q_3, .ref q_21, .ref q_39, .int 0, .ref q_52, .int 0, .ref q_60, .ref q_66, .ref q_73, .ref q_79, .ref q_84, .ref q_92, .ref q_102, .ref q_107]))] := hD
  refine lv_aload_n hx hb dX11_text_43 rfl (lv_at hl 1 rfl) ?_
  refine lv_iconst (v := 0) hx hb dX11_text_44 (by decide) ?_
  refine va_put (D := (dC, dI)) (ci := 11) (v := .int 0) (ty := .boolean) (C := RX11) (T := TX11) (N := 17) hx hb hts mem_X11_text_0 tyX11 tyX11_ok nmX11 hown hK hP hD hS 0 rfl rfl 8 (by decide) (ow (k := 10) rfl) (fun _ h9 => h9) rfl (by decide +kernel) rfl rfl (Nat.le_of_ble_eq_true rfl) dX11_text_45 (fun H locs hP hD hS => ?_)
  have hP : va_P (dC, dI) vwP [(h0, .inr (11, [.ref q_1, .int 0, .int (-1), .ref q_3, .ref q_21, .ref q_39, .int 0, .ref q_52, .int 0, .ref q_60, .ref q_66, .ref q_73, .ref q_79, .ref q_84, .ref q_92, .ref q_102, .ref q_107]))] H := hP
  have hD : va_D A [(h0, .inr (11, [.ref q_1, .int 0, .int (-1), .ref q_3, .ref q_21, .ref q_39, .int 0, .ref q_52, .int 0, .ref q_60, .ref q_66, .ref q_73, .ref q_79, .ref q_84, .ref q_92, .ref q_102, .ref q_107]))] := hD
  refine lv_iload_n hx hb dX11_text_48 rfl (lv_at hl 0 rfl) ?_
  have hP := hP.sub (ws' := []) [] rfl
  have hD := hD.sub (ws' := []) [] (by decide) rfl
  refine W.widen (k := 0) (n := 0) (Nat.le_of_ble_eq_true rfl) (Nat.le_of_ble_eq_true rfl) ?_
  exact W.iret (v := 0) hx hb hr (fun t ht hW => ⟨⟨0, (), rfl, rfl, by rw [ht]; exact hP, va_K.moved hW.alike hK, hD⟩, hS.F ht⟩) hS.2.2 dX11_text_49
end
section
theorem dX5_takeInput_0 : decode cX5_takeInput 0 = .ok (.aload_n 0, 1) := by decide +kernel
theorem dX5_takeInput_1 : decode cX5_takeInput 1 = .ok (.iload_n 2, 1) := by decide +kernel
theorem dX5_takeInput_2 : decode cX5_takeInput 2 = .ok (.iconst 4, 1) := by decide +kernel
theorem dX5_takeInput_3 : decode cX5_takeInput 3 = .ok (.idiv, 1) := by decide +kernel
theorem dX5_takeInput_4 : decode cX5_takeInput 4 = .ok (.putfield 9, 3) := by decide +kernel
theorem dX5_takeInput_7 : decode cX5_takeInput 7 = .ok (.iconst 0, 1) := by decide +kernel
theorem dX5_takeInput_8 : decode cX5_takeInput 8 = .ok (.istore_n 3, 1) := by decide +kernel
theorem dX5_takeInput_9 : decode cX5_takeInput 9 = .ok (.iload_n 3, 1) := by decide +kernel
theorem dX5_takeInput_10 : decode cX5_takeInput 10 = .ok (.aload_n 0, 1) := by decide +kernel
theorem dX5_takeInput_11 : decode cX5_takeInput 11 = .ok (.getfield 9, 3) := by decide +kernel
theorem dX5_takeInput_14 : decode cX5_takeInput 14 = .ok (.if_icmp .ge 73, 3) := by decide +kernel
theorem dX5_takeInput_87 : decode cX5_takeInput 87 = .ok (.return_, 1) := by decide +kernel
def o_X5_takeInput : List Cond := [.fieldLink RX5 9 "SsaForge$Machine" "inputLength" "I"]
def v_X5_takeInput : List Cond := .code yX5_takeInput cX5_takeInput 5 none :: (o_X5_takeInput ++ (wsX50 ++ []))
theorem mow_X5_takeInput : ∀ w ∈ o_X5_takeInput, w ∈ v_X5_takeInput := fun _ h => List.mem_cons_of_mem _ (List.mem_append_left _ h)
theorem mem_X5_takeInput_0 : ∀ w ∈ wsX50, w ∈ v_X5_takeInput := fun _ h => List.mem_cons_of_mem _ (List.mem_append_right _ (List.mem_append_left _ h))
set_option maxRecDepth 20000 in
theorem gw_X5_takeInput : v_X5_takeInput.all goodWord = true := by decide +kernel
set_option maxHeartbeats 4000000 in
set_option maxRecDepth 100000 in
theorem c_X5_takeInput (l : Launch) (dC : Nat → ClassId) (dI : Nat → Nat → Nat) (q_102 : Nat) (q_103 : Nat) (q_104 : Nat) (q_105 : Nat) (q_106 : Nat) (q_1 : Nat) (sz : Nat) : Met l yX5_takeInput v_X5_takeInput ({ frames := 0, cells := 0, slots := 0, locals := 0 }) (va_Pc [.ref q_102, .ref q_1, .int 0] (fun U => U.heap.size = sz ∧ va_P (dC, dI) vwP [(q_102, .inr (5, [.int 0, .int 0, .int 0, .int 0, .int 0, .int (-1), .ref q_103, .ref q_104, .ref q_105, .ref q_106, .int 0]))] U.heap ∧ va_K (dC, dI) vwP [] U ∧ va_D (fun _ => True) [(q_102, .inr (5, [.int 0, .int 0, .int 0, .int 0, .int 0, .int (-1), .ref q_103, .ref q_104, .ref q_105, .ref q_106, .int 0]))])) (va_Qv (fun _ : Unit => True) (fun (_ : Unit) (t : State) => va_P (dC, dI) vwP [(q_102, .inr (5, [.int 0, .int 0, .int 0, .int 0, .int 0, .int (-1), .ref q_103, .ref q_104, .ref q_105, .ref q_106, .int 0]))] t.heap ∧ va_K (dC, dI) vwP [] t ∧ va_D (va_A [(q_102, .inr (5, [.int 0, .int 0, .int 0, .int 0, .int 0, .int (-1), .ref q_103, .ref q_104, .ref q_105, .ref q_106, .int 0]))] sz) [(q_102, .inr (5, [.int 0, .int 0, .int 0, .int 0, .int 0, .int (-1), .ref q_103, .ref q_104, .ref q_105, .ref q_106, .int 0]))]) (va_A [(q_102, .inr (5, [.int 0, .int 0, .int 0, .int 0, .int 0, .int (-1), .ref q_103, .ref q_104, .ref q_105, .ref q_106, .int 0]))] sz)) 0 0 (va_A [(q_102, .inr (5, [.int 0, .int 0, .int 0, .int 0, .int 0, .int (-1), .ref q_103, .ref q_104, .ref q_105, .ref q_106, .int 0]))] sz) := by
  refine Met.ofW (cc := cX5_takeInput) (maxL := 5) (ret := none) (by decide) rfl ?_
  intro p e s m args below meth c s₁ B hml hv
  obtain ⟨rfl, hsz, hP, hK, hD0⟩ := hv
  have hx := B.exec
  have hb := B.bytes
  have hr := B.returns
  have hts := atoms_spec (ws := v_X5_takeInput) B.pre
  have hown : s.vm.findClass RX5 = some m.cls := findClass_of_methodNamed B.named
  have hlocks := B.notSynchronized
  have ow : ∀ {k : Nat} {w : Cond}, o_X5_takeInput[k]? = some w → w.before ([.ref q_102, .ref q_1, .int 0] : List Value).toArray s = true := fun h => hts _ (mow_X5_takeInput _ (List.mem_of_getElem? h))
  subst hsz
  have hD := hD0.self (sz := s.heap.size)
  generalize hAe : va_A [(q_102, .inr (5, [.int 0, .int 0, .int 0, .int 0, .int 0, .int (-1), .ref q_103, .ref q_104, .ref q_105, .ref q_106, .int 0]))] s.heap.size = A at hD ⊢
  have hA : ∀ q : Nat, s.heap.size ≤ q → A q := fun q h => by rw [← hAe]; exact Or.inr h
  have hS : va_S A s.heap s.heap [] := va_S.rf
  have hP : va_P (dC, dI) vwP [(q_102, .inr (5, [.int 0, .int 0, .int 0, .int 0, .int 0, .int (-1), .ref q_103, .ref q_104, .ref q_105, .ref q_106, .int 0]))] s.heap := hP
  have hl := lv_entry ([.ref q_102, .ref q_1, .int 0]) (n := 5) (Nat.le_of_ble_eq_true rfl)
  rw [lg_entry_eq]
  generalize (lg_sl ([.ref q_102, .ref q_1, .int 0]) ++ List.replicate (5 - (lg_sl ([.ref q_102, .ref q_1, .int 0])).length) Slot.unset).toArray = ls at hl ⊢
  have hl : lv_has ls 5 [(0, .ref q_102), (1, .ref q_1), (2, .int 0)] := hl
  obtain ⟨H, hH⟩ : ∃ H, H = s.heap := ⟨_, rfl⟩
  rw [← hH] at hP
  have hS : va_S A s.heap H [] := by rw [hH]; exact hS
  rw [← hH]
  refine lv_aload_n hx hb dX5_takeInput_0 rfl (lv_at hl 0 rfl) ?_
  refine lv_iload_n hx hb dX5_takeInput_1 rfl (lv_at hl 2 rfl) ?_
  refine lv_iconst (v := 4) hx hb dX5_takeInput_2 (by decide) ?_
  refine lv_idiv hx hb dX5_takeInput_3 (by decide) ?_
  refine lv_topi (fun z ez => ?_)
  obtain rfl : z = 0 := by rw [ez]; decide
  refine va_put (D := (dC, dI)) (ci := 5) (v := .int 0) (ty := .int) (C := RX5) (T := TX5) (N := 11) hx hb hts mem_X5_takeInput_0 tyX5 tyX5_ok nmX5 hown hK hP hD hS 0 rfl rfl 0 (by decide) (ow (k := 0) rfl) (fun _ h9 => h9) rfl (by decide +kernel) rfl rfl (Nat.le_of_ble_eq_true rfl) dX5_takeInput_4 (fun H locs hP hD hS => ?_)
  have hP : va_P (dC, dI) vwP [(q_102, .inr (5, [.int 0, .int 0, .int 0, .int 0, .int 0, .int (-1), .ref q_103, .ref q_104, .ref q_105, .ref q_106, .int 0]))] H := hP
  have hD : va_D A [(q_102, .inr (5, [.int 0, .int 0, .int 0, .int 0, .int 0, .int (-1), .ref q_103, .ref q_104, .ref q_105, .ref q_106, .int 0]))] := hD
  refine lv_iconst (v := 0) hx hb dX5_takeInput_7 (by decide) ?_
  refine lv_istore_n (lv' := [(3, .int 0), (0, .ref q_102), (1, .ref q_1), (2, .int 0)]) hx hb dX5_takeInput_8 rfl hl (by decide) rfl (fun ls hl => ?_)
  refine lv_iload_n hx hb dX5_takeInput_9 rfl (lv_at hl 0 rfl) ?_
  refine lv_aload_n hx hb dX5_takeInput_10 rfl (lv_at hl 1 rfl) ?_
  refine va_get (D := (dC, dI)) (ci := 5) (v := .int 0) (C := RX5) (T := TX5) (N := 11) hx hb hts mem_X5_takeInput_0 hown hK hP 0 rfl rfl 0 (by decide) (ow (k := 0) rfl) (fun _ h9 => h9) rfl dX5_takeInput_11 ?_
  refine lv_icmp_ge (tgt := 87) hx hb dX5_takeInput_14 (by decide) (fun _ => ?_) (fun h9 => absurd h9 (by decide))
  refine W.widen (k := 0) (n := 0) (Nat.le_of_ble_eq_true rfl) (Nat.le_of_ble_eq_true rfl) ?_
  exact W.vret hx hb hr (fun t ht hW => ⟨⟨(), rfl, trivial, by rw [ht]; exact hP, va_K.moved hW.alike hK, hD⟩, hS.F ht⟩) hS.2.2 dX5_takeInput_87
theorem dX11_input_0 : decode cX11_input 0 = .ok (.aload_n 0, 1) := by decide +kernel
theorem dX11_input_1 : decode cX11_input 1 = .ok (.getfield 96, 3) := by decide +kernel
theorem dX11_input_4 : decode cX11_input 4 = .ok (.aload_n 0, 1) := by decide +kernel
theorem dX11_input_5 : decode cX11_input 5 = .ok (.getfield 9, 3) := by decide +kernel
theorem dX11_input_8 : decode cX11_input 8 = .ok (.aload_n 0, 1) := by decide +kernel
theorem dX11_input_9 : decode cX11_input 9 = .ok (.getfield 13, 3) := by decide +kernel
theorem dX11_input_12 : decode cX11_input 12 = .ok (.invokevirtual 127, 3) := by decide +kernel
theorem dX11_input_15 : decode cX11_input 15 = .ok (.aload_n 0, 1) := by decide +kernel
theorem dX11_input_16 : decode cX11_input 16 = .ok (.iconst 0, 1) := by decide +kernel
theorem dX11_input_17 : decode cX11_input 17 = .ok (.putfield 13, 3) := by decide +kernel
theorem dX11_input_20 : decode cX11_input 20 = .ok (.aload_n 0, 1) := by decide +kernel
theorem dX11_input_21 : decode cX11_input 21 = .ok (.getfield 96, 3) := by decide +kernel
theorem dX11_input_24 : decode cX11_input 24 = .ok (.getfield 131, 3) := by decide +kernel
theorem dX11_input_27 : decode cX11_input 27 = .ok (.ireturn, 1) := by decide +kernel
def o_X11_input : List Cond := [.fieldLink RX11 96 "SsaForge" "machine" "LSsaForge$Machine;", .fieldLink RX11 9 "SsaForge" "tape" "[B", .fieldLink RX11 13 "SsaForge" "tapeLength" "I", .methodLink RX11 127 yX5_takeInput, .instanceMethod yX5_takeInput, .selects RX5 yX5_takeInput yX5_takeInput, .initialized RX5, .fieldLink RX11 131 "SsaForge$Machine" "inputLength" "I"]
def v_X11_input : List Cond := .code yX11_input cX11_input 1 (some .int) :: (o_X11_input ++ (wsX110 ++ (v_X5_takeInput ++ (wsX50 ++ []))))
theorem mow_X11_input : ∀ w ∈ o_X11_input, w ∈ v_X11_input := fun _ h => List.mem_cons_of_mem _ (List.mem_append_left _ h)
theorem mem_X11_input_0 : ∀ w ∈ wsX110, w ∈ v_X11_input := fun _ h => List.mem_cons_of_mem _ (List.mem_append_right _ (List.mem_append_left _ h))
theorem mem_X11_input_1 : ∀ w ∈ v_X5_takeInput, w ∈ v_X11_input := fun _ h => List.mem_cons_of_mem _ (List.mem_append_right _ (List.mem_append_right _ (List.mem_append_left _ h)))
theorem mem_X11_input_2 : ∀ w ∈ wsX50, w ∈ v_X11_input := fun _ h => List.mem_cons_of_mem _ (List.mem_append_right _ (List.mem_append_right _ (List.mem_append_right _ (List.mem_append_left _ h))))
set_option maxRecDepth 20000 in
theorem gw_X11_input : v_X11_input.all goodWord = true := by decide +kernel
set_option maxRecDepth 20000 in
theorem g_X11_input_X5_takeInput : GoodIn v_X11_input (wsV RX11 127 RX5 yX5_takeInput v_X5_takeInput) := goodIn_app (goodIn_sub (fun w h => mow_X11_input w (by revert w h; decide +kernel)) (by decide +kernel)) (goodIn_sub mem_X11_input_1 gw_X5_takeInput)
set_option maxHeartbeats 4000000 in
set_option maxRecDepth 100000 in
theorem c_X11_input (l : Launch) (dC : Nat → ClassId) (dI : Nat → Nat → Nat) (h0 : Nat) (q_1 : Nat) (q_3 : Nat) (q_21 : Nat) (q_39 : Nat) (q_52 : Nat) (q_60 : Nat) (q_66 : Nat) (q_73 : Nat) (q_79 : Nat) (q_84 : Nat) (q_92 : Nat) (q_102 : Nat) (q_107 : Nat) (q_103 : Nat) (q_104 : Nat) (q_105 : Nat) (q_106 : Nat) (sz : Nat) : Met l yX11_input v_X11_input ({ frames := 1, cells := 0, slots := 0, locals := 24 }) (va_Pc [.ref h0] (fun U => U.heap.size = sz ∧ va_P (dC, dI) vwP [(h0, .inr (11, [.ref q_1, .int 0, .int (-1), .ref q_3, .ref q_21, .ref q_39, .int 0, .ref q_52, .int 0, .ref q_60, .ref q_66, .ref q_73, .ref q_79, .ref q_84, .ref q_92, .ref q_102, .ref q_107])), (q_102, .inr (5, [.int 0, .int 0, .int 0, .int 0, .int 0, .int (-1), .ref q_103, .ref q_104, .ref q_105, .ref q_106, .int 0]))] U.heap ∧ va_K (dC, dI) vwP [] U ∧ va_D (fun _ => True) [(h0, .inr (11, [.ref q_1, .int 0, .int (-1), .ref q_3, .ref q_21, .ref q_39, .int 0, .ref q_52, .int 0, .ref q_60, .ref q_66, .ref q_73, .ref q_79, .ref q_84, .ref q_92, .ref q_102, .ref q_107])), (q_102, .inr (5, [.int 0, .int 0, .int 0, .int 0, .int 0, .int (-1), .ref q_103, .ref q_104, .ref q_105, .ref q_106, .int 0]))])) (va_Qi (fun (r : Int32) (_ : Unit) => r = 0) (fun (_ : Unit) (t : State) => va_P (dC, dI) vwP [] t.heap ∧ va_K (dC, dI) vwP [] t ∧ va_D (va_A [(h0, .inr (11, [.ref q_1, .int 0, .int (-1), .ref q_3, .ref q_21, .ref q_39, .int 0, .ref q_52, .int 0, .ref q_60, .ref q_66, .ref q_73, .ref q_79, .ref q_84, .ref q_92, .ref q_102, .ref q_107])), (q_102, .inr (5, [.int 0, .int 0, .int 0, .int 0, .int 0, .int (-1), .ref q_103, .ref q_104, .ref q_105, .ref q_106, .int 0]))] sz) []) (va_A [(h0, .inr (11, [.ref q_1, .int 0, .int (-1), .ref q_3, .ref q_21, .ref q_39, .int 0, .ref q_52, .int 0, .ref q_60, .ref q_66, .ref q_73, .ref q_79, .ref q_84, .ref q_92, .ref q_102, .ref q_107])), (q_102, .inr (5, [.int 0, .int 0, .int 0, .int 0, .int 0, .int (-1), .ref q_103, .ref q_104, .ref q_105, .ref q_106, .int 0]))] sz)) 0 0 (va_A [(h0, .inr (11, [.ref q_1, .int 0, .int (-1), .ref q_3, .ref q_21, .ref q_39, .int 0, .ref q_52, .int 0, .ref q_60, .ref q_66, .ref q_73, .ref q_79, .ref q_84, .ref q_92, .ref q_102, .ref q_107])), (q_102, .inr (5, [.int 0, .int 0, .int 0, .int 0, .int 0, .int (-1), .ref q_103, .ref q_104, .ref q_105, .ref q_106, .int 0]))] sz) := by
  refine Met.ofW (cc := cX11_input) (maxL := 1) (ret := (some .int)) (by decide) rfl ?_
  intro p e s m args below meth c s₁ B hml hv
  obtain ⟨rfl, hsz, hP, hK, hD0⟩ := hv
  have hx := B.exec
  have hb := B.bytes
  have hr := B.returns
  have hts := atoms_spec (ws := v_X11_input) B.pre
  have hown : s.vm.findClass RX11 = some m.cls := findClass_of_methodNamed B.named
  have hlocks := B.notSynchronized
  have ow : ∀ {k : Nat} {w : Cond}, o_X11_input[k]? = some w → w.before ([.ref h0] : List Value).toArray s = true := fun h => hts _ (mow_X11_input _ (List.mem_of_getElem? h))
  subst hsz
  have hD := hD0.self (sz := s.heap.size)
  generalize hAe : va_A [(h0, .inr (11, [.ref q_1, .int 0, .int (-1), .ref q_3, .ref q_21, .ref q_39, .int 0, .ref q_52, .int 0, .ref q_60, .ref q_66, .ref q_73, .ref q_79, .ref q_84, .ref q_92, .ref q_102, .ref q_107])), (q_102, .inr (5, [.int 0, .int 0, .int 0, .int 0, .int 0, .int (-1), .ref q_103, .ref q_104, .ref q_105, .ref q_106, .int 0]))] s.heap.size = A at hD ⊢
  have hA : ∀ q : Nat, s.heap.size ≤ q → A q := fun q h => by rw [← hAe]; exact Or.inr h
  have hS : va_S A s.heap s.heap [] := va_S.rf
  have hP : va_P (dC, dI) vwP [(h0, .inr (11, [.ref q_1, .int 0, .int (-1), .ref q_3, .ref q_21, .ref q_39, .int 0, .ref q_52, .int 0, .ref q_60, .ref q_66, .ref q_73, .ref q_79, .ref q_84, .ref q_92, .ref q_102, .ref q_107])), (q_102, .inr (5, [.int 0, .int 0, .int 0, .int 0, .int 0, .int (-1), .ref q_103, .ref q_104, .ref q_105, .ref q_106, .int 0]))] s.heap := hP
  have hl := lv_entry ([.ref h0]) (n := 1) (Nat.le_of_ble_eq_true rfl)
  rw [lg_entry_eq]
  generalize (lg_sl ([.ref h0]) ++ List.replicate (1 - (lg_sl ([.ref h0])).length) Slot.unset).toArray = ls at hl ⊢
  have hl : lv_has ls 1 [(0, .ref h0)] := hl
  obtain ⟨H, hH⟩ : ∃ H, H = s.heap := ⟨_, rfl⟩
  rw [← hH] at hP
  have hS : va_S A s.heap H [] := by rw [hH]; exact hS
  rw [← hH]
  refine lv_aload_n hx hb dX11_input_0 rfl (lv_at hl 0 rfl) ?_
  refine va_get (D := (dC, dI)) (ci := 11) (v := .ref q_102) (C := RX11) (T := TX11) (N := 17) hx hb hts mem_X11_input_0 hown hK hP 0 rfl rfl 15 (by decide) (ow (k := 0) rfl) (fun _ h9 => h9) rfl dX11_input_1 ?_
  refine lv_aload_n hx hb dX11_input_4 rfl (lv_at hl 0 rfl) ?_
  refine va_get (D := (dC, dI)) (ci := 11) (v := .ref q_1) (C := RX11) (T := TX11) (N := 17) hx hb hts mem_X11_input_0 hown hK hP 0 rfl rfl 0 (by decide) (ow (k := 1) rfl) (fun _ h9 => h9) rfl dX11_input_5 ?_
  refine lv_aload_n hx hb dX11_input_8 rfl (lv_at hl 0 rfl) ?_
  refine va_get (D := (dC, dI)) (ci := 11) (v := .int 0) (C := RX11) (T := TX11) (N := 17) hx hb hts mem_X11_input_0 hown hK hP 0 rfl rfl 1 (by decide) (ow (k := 2) rfl) (fun _ h9 => h9) rfl dX11_input_9 ?_
  have hPc := hP.sub (ws' := [(q_102, .inr (5, [.int 0, .int 0, .int 0, .int 0, .int 0, .int (-1), .ref q_103, .ref q_104, .ref q_105, .ref q_106, .int 0]))]) [1] rfl
  have hDc := hD.sub (ws' := [(q_102, .inr (5, [.int 0, .int 0, .int 0, .int 0, .int 0, .int (-1), .ref q_103, .ref q_104, .ref q_105, .ref q_106, .int 0]))]) [1] (by decide) rfl
  have hKc := hK.sub (tys' := []) [] rfl
  have hFc := va_free (wc := [(q_102, .inr (5, [.int 0, .int 0, .int 0, .int 0, .int 0, .int (-1), .ref q_103, .ref q_104, .ref q_105, .ref q_106, .int 0]))]) hD hS hA [1] rfl
  refine va_callv (va_runV (As := [.ref q_1, .int 0]) (rest := []) ⟨hx, hb, hml, hown, hts⟩ (c_X5_takeInput l dC dI q_102 q_103 q_104 q_105 q_106 q_1 H.size) (cwV 2 hts g_X11_input_X5_takeInput rfl rfl rfl (by decide +kernel) ⟨(Nat.le_of_ble_eq_true rfl), (Nat.le_of_ble_eq_true rfl)⟩) ⟨fun a U g mk q => by obtain ⟨q0, q1, qP, qK, qD⟩ := q; exact ⟨q0, q1, qP, va_K.moved (u := U) (U := U.calling g mk a) (Vm.Alike.refl U.vm) qK, qD⟩, va_recv hKc hPc (ci := 5) (q0 := 0) rfl rfl, fun U hU hW => ⟨rfl, by rw [hU], by rw [hU]; exact hPc, va_K.moved hW.alike hKc, hDc.weaken (fun _ _ _ _ => trivial)⟩⟩ rfl rfl hl.1 rfl (lv_room (Nat.le_of_ble_eq_true rfl)) dX11_input_12 ⟨(Nat.le_of_ble_eq_true rfl), (Nat.le_of_ble_eq_true rfl)⟩) hS (fun q _ h => hFc q h) hFc (fun  u t H1 locs ht hvm hw hB hz1 hk1 hS => ?_)
  obtain ⟨hP1, hK1, hD1⟩ := hB
  rw [ht] at hP1
  have hK1 := va_K.moved hvm.symm hK1
  obtain ⟨hP, hD⟩ := va_join (wr := [(h0, .inr (11, [.ref q_1, .int 0, .int (-1), .ref q_3, .ref q_21, .ref q_39, .int 0, .ref q_52, .int 0, .ref q_60, .ref q_66, .ref q_73, .ref q_79, .ref q_84, .ref q_92, .ref q_102, .ref q_107]))]) (w1 := [(q_102, .inr (5, [.int 0, .int 0, .int 0, .int 0, .int 0, .int (-1), .ref q_103, .ref q_104, .ref q_105, .ref q_106, .int 0]))]) hP hD [1] [0] rfl rfl (by decide) (by decide) hk1 hFc hP1 hD1
  have hK := (hK.sub (tys' := []) [] rfl).app hK1
  generalize H1 = H at hP hS ⊢
  have hP : va_P (dC, dI) vwP [(h0, .inr (11, [.ref q_1, .int 0, .int (-1), .ref q_3, .ref q_21, .ref q_39, .int 0, .ref q_52, .int 0, .ref q_60, .ref q_66, .ref q_73, .ref q_79, .ref q_84, .ref q_92, .ref q_102, .ref q_107])), (q_102, .inr (5, [.int 0, .int 0, .int 0, .int 0, .int 0, .int (-1), .ref q_103, .ref q_104, .ref q_105, .ref q_106, .int 0]))] H := hP
  have hD : va_D A [(h0, .inr (11, [.ref q_1, .int 0, .int (-1), .ref q_3, .ref q_21, .ref q_39, .int 0, .ref q_52, .int 0, .ref q_60, .ref q_66, .ref q_73, .ref q_79, .ref q_84, .ref q_92, .ref q_102, .ref q_107])), (q_102, .inr (5, [.int 0, .int 0, .int 0, .int 0, .int 0, .int (-1), .ref q_103, .ref q_104, .ref q_105, .ref q_106, .int 0]))] := hD
  have hK : va_K (dC, dI) vwP [] s := hK
  refine W.widen (k := 0) (n := 0) (Nat.le_of_ble_eq_true rfl) (Nat.le_of_ble_eq_true rfl) ?_
  refine lv_aload_n hx hb dX11_input_15 rfl (lv_at hl 0 rfl) ?_
  refine lv_iconst (v := 0) hx hb dX11_input_16 (by decide) ?_
  refine va_put (D := (dC, dI)) (ci := 11) (v := .int 0) (ty := .int) (C := RX11) (T := TX11) (N := 17) hx hb hts mem_X11_input_0 tyX11 tyX11_ok nmX11 hown hK hP hD hS 0 rfl rfl 1 (by decide) (ow (k := 2) rfl) (fun _ h9 => h9) rfl (by decide +kernel) rfl rfl (Nat.le_of_ble_eq_true rfl) dX11_input_17 (fun H locs hP hD hS => ?_)
  have hP : va_P (dC, dI) vwP [(h0, .inr (11, [.ref q_1, .int 0, .int (-1), .ref q_3, .ref q_21, .ref q_39, .int 0, .ref q_52, .int 0, .ref q_60, .ref q_66, .ref q_73, .ref q_79, .ref q_84, .ref q_92, .ref q_102, .ref q_107])), (q_102, .inr (5, [.int 0, .int 0, .int 0, .int 0, .int 0, .int (-1), .ref q_103, .ref q_104, .ref q_105, .ref q_106, .int 0]))] H := hP
  have hD : va_D A [(h0, .inr (11, [.ref q_1, .int 0, .int (-1), .ref q_3, .ref q_21, .ref q_39, .int 0, .ref q_52, .int 0, .ref q_60, .ref q_66, .ref q_73, .ref q_79, .ref q_84, .ref q_92, .ref q_102, .ref q_107])), (q_102, .inr (5, [.int 0, .int 0, .int 0, .int 0, .int 0, .int (-1), .ref q_103, .ref q_104, .ref q_105, .ref q_106, .int 0]))] := hD
  refine lv_aload_n hx hb dX11_input_20 rfl (lv_at hl 0 rfl) ?_
  refine va_get (D := (dC, dI)) (ci := 11) (v := .ref q_102) (C := RX11) (T := TX11) (N := 17) hx hb hts mem_X11_input_0 hown hK hP 0 rfl rfl 15 (by decide) (ow (k := 0) rfl) (fun _ h9 => h9) rfl dX11_input_21 ?_
  refine va_get (D := (dC, dI)) (ci := 5) (v := .int 0) (C := RX5) (T := TX5) (N := 11) hx hb hts mem_X11_input_2 hown hK hP 1 rfl rfl 0 (by decide) (ow (k := 7) rfl) (fun _ h9 => h9) rfl dX11_input_24 ?_
  have hP := hP.sub (ws' := []) [] rfl
  have hD := hD.sub (ws' := []) [] (by decide) rfl
  refine W.widen (k := 0) (n := 0) (Nat.le_of_ble_eq_true rfl) (Nat.le_of_ble_eq_true rfl) ?_
  exact W.iret (v := 0) hx hb hr (fun t ht hW => ⟨⟨0, (), rfl, rfl, by rw [ht]; exact hP, va_K.moved hW.alike hK, hD⟩, hS.F ht⟩) hS.2.2 dX11_input_27
end
