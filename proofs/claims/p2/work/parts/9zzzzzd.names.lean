def RX12 : String := "SsaForgeModel$Block"
def TX12 : u_T := fun k => match k with
  | 0 => ("SsaForgeModel$Block", "phis", "Ljava/util/ArrayList;", true)
  | 1 => ("SsaForgeModel$Block", "rows", "Ljava/util/ArrayList;", true)
  | 2 => ("SsaForgeModel$Block", "end", "LSsaForgeModel$Row;", true)
  | 3 => ("SsaForgeModel$Block", "first", "I", false)
  | _ => ("SsaForgeModel$Block", "second", "I", false)
def tyX12 : Nat → FieldType := fun k => match k with
  | 0 => .object "java/util/ArrayList"
  | 1 => .object "java/util/ArrayList"
  | 2 => .object "SsaForgeModel$Row"
  | 3 => .int
  | _ => .int
abbrev wsX120 : List Cond := u_ws RX12 TX12 5
theorem nmX12 : ∀ a, a < 5 → ∀ b, b < 5 → a ≠ b → (TX12 a).2.1 ≠ (TX12 b).2.1 := by decide +kernel
theorem tyX12_ok : ∀ k, k < 5 → parseFieldDescriptor (TX12 k).2.2.1 = some (tyX12 k) := by decide +kernel
theorem df_X12 : ∀ j, j < 5 → defaultValue (tyX12 j) = vp_V [.null, .null, .null, .int 0, .int 0] j := by decide +kernel
def RX15 : String := "SsaForgeModel$Phi"
def TX15 : u_T := fun k => match k with
  | 0 => ("SsaForgeModel$Phi", "t", "I", false)
  | 1 => ("SsaForgeModel$Phi", "n", "I", false)
  | 2 => ("SsaForgeModel$Phi", "preds", "[I", false)
  | 3 => ("SsaForgeModel$Phi", "operands", "[I", false)
  | 4 => ("SsaForgeModel$Phi", "regs", "[Z", false)
  | _ => ("SsaForgeModel$Phi", "gone", "Z", false)
def tyX15 : Nat → FieldType := fun k => match k with
  | 0 => .int
  | 1 => .int
  | 2 => .array .int
  | 3 => .array .int
  | 4 => .array .boolean
  | _ => .boolean
abbrev wsX150 : List Cond := u_ws RX15 TX15 6
theorem nmX15 : ∀ a, a < 6 → ∀ b, b < 6 → a ≠ b → (TX15 a).2.1 ≠ (TX15 b).2.1 := by decide +kernel
theorem tyX15_ok : ∀ k, k < 6 → parseFieldDescriptor (TX15 k).2.2.1 = some (tyX15 k) := by decide +kernel
theorem df_X15 : ∀ j, j < 6 → defaultValue (tyX15 j) = vp_V [.int 0, .int 0, .null, .null, .null, .int 0] j := by decide +kernel
def RX17 : String := "SsaForgeModel$Row"
def TX17 : u_T := fun k => match k with
  | 0 => ("SsaForgeModel$Row", "op", "I", false)
  | 1 => ("SsaForgeModel$Row", "t", "I", false)
  | 2 => ("SsaForgeModel$Row", "a", "I", false)
  | 3 => ("SsaForgeModel$Row", "b", "I", false)
  | 4 => ("SsaForgeModel$Row", "regA", "Z", false)
  | 5 => ("SsaForgeModel$Row", "regB", "Z", false)
  | _ => ("SsaForgeModel$Row", "gone", "Z", false)
def tyX17 : Nat → FieldType := fun k => match k with
  | 0 => .int
  | 1 => .int
  | 2 => .int
  | 3 => .int
  | 4 => .boolean
  | 5 => .boolean
  | _ => .boolean
abbrev wsX170 : List Cond := u_ws RX17 TX17 7
theorem nmX17 : ∀ a, a < 7 → ∀ b, b < 7 → a ≠ b → (TX17 a).2.1 ≠ (TX17 b).2.1 := by decide +kernel
theorem tyX17_ok : ∀ k, k < 7 → parseFieldDescriptor (TX17 k).2.2.1 = some (tyX17 k) := by decide +kernel
theorem df_X17 : ∀ j, j < 7 → defaultValue (tyX17 j) = vp_V [.int 0, .int 0, .int 0, .int 0, .int 0, .int 0, .int 0] j := by decide +kernel
def TJ0 : u_T := fun k => match k with
  | 0 => ("java/lang/String", "value", "[B", true)
  | 1 => ("java/lang/String", "coder", "B", true)
  | 2 => ("java/lang/String", "hash", "I", false)
  | _ => ("java/lang/String", "hashIsZero", "Z", false)
def tyJ0 : Nat → FieldType := fun k => match k with
  | 0 => .array .byte
  | 1 => .byte
  | 2 => .int
  | _ => .boolean
abbrev wsJ00 : List Cond := u_ws RJ0 TJ0 4
theorem nmJ0 : ∀ a, a < 4 → ∀ b, b < 4 → a ≠ b → (TJ0 a).2.1 ≠ (TJ0 b).2.1 := by decide +kernel
theorem tyJ0_ok : ∀ k, k < 4 → parseFieldDescriptor (TJ0 k).2.2.1 = some (tyJ0 k) := by decide +kernel
theorem df_J0 : ∀ j, j < 4 → defaultValue (tyJ0 j) = vp_V [.null, .int 0, .int 0, .int 0] j := by decide +kernel
abbrev cX12_init : ByteArray := prog_15_method_1_code
def yX12_init : MethodName := ⟨RX12, "<init>", "()V"⟩
abbrev cX12_way : ByteArray := prog_15_method_3_code
def yX12_way : MethodName := ⟨RX12, "way", "(I)I"⟩
abbrev cX12_ways : ByteArray := prog_15_method_2_code
def yX12_ways : MethodName := ⟨RX12, "ways", "()I"⟩
abbrev cX15_add : ByteArray := prog_18_method_3_code
def yX15_add : MethodName := ⟨RX15, "add", "(IIZ)V"⟩
abbrev cX15_begin : ByteArray := prog_18_method_2_code
def yX15_begin : MethodName := ⟨RX15, "begin", "(I)V"⟩
abbrev cX15_drop : ByteArray := prog_18_method_5_code
def yX15_drop : MethodName := ⟨RX15, "drop", "(I)V"⟩
abbrev cX15_init : ByteArray := prog_18_method_1_code
def yX15_init : MethodName := ⟨RX15, "<init>", "()V"⟩
abbrev cX15_place : ByteArray := prog_18_method_4_code
def yX15_place : MethodName := ⟨RX15, "place", "(I)I"⟩
abbrev cX15_sort : ByteArray := prog_18_method_6_code
def yX15_sort : MethodName := ⟨RX15, "sort", "()V"⟩
abbrev cX17_canStop : ByteArray := prog_20_method_6_code
def yX17_canStop : MethodName := ⟨RX17, "canStop", "()Z"⟩
abbrev cX17_init : ByteArray := prog_20_method_1_code
def yX17_init : MethodName := ⟨RX17, "<init>", "()V"⟩
abbrev cX17_put : ByteArray := prog_20_method_7_code
def yX17_put : MethodName := ⟨RX17, "put", "(LSsaForgeModel$Row;)V"⟩
abbrev cX17_sets : ByteArray := prog_20_method_2_code
def yX17_sets : MethodName := ⟨RX17, "sets", "()Z"⟩
abbrev cX17_usesA : ByteArray := prog_20_method_3_code
def yX17_usesA : MethodName := ⟨RX17, "usesA", "()Z"⟩
abbrev cX17_usesB : ByteArray := prog_20_method_4_code
def yX17_usesB : MethodName := ⟨RX17, "usesB", "()Z"⟩
abbrev vwQ : List vw_C := vwP ++ [(RX12, TX12, 5), (RX15, TX15, 6), (RX17, TX17, 7), (RJ0, TJ0, 4)]
